abbrev wd_X4_fail (cI cZ cB cG : ClassId) (q_t : Nat) (q_t_text : Nat) (q_t_game : Nat) (t_error : Int32) (t_errorAt : Int32) (t_length : Int32) (t_kind : Int32) (t_start : Int32) (t_end : Int32) (t_value : Int32) (t_laid : Int32) : va_W := [(q_t, .inr (4, [.ref q_t_text, .ref q_t_game, .int t_error, .int t_errorAt, .int t_length, .int t_kind, .int t_start, .int t_end, .int t_value, .int t_laid]))]
def wp_X4_fail (a1 : Int32) (t_error : Int32) (t_errorAt : Int32) (t_start : Int32) (post : Int32 → Int32 → Prop) : Prop := ((¬ t_error = (0 : Int32) → (post t_error t_errorAt)) ∧ (t_error = (0 : Int32) → (post a1 t_start)))
abbrev rm_X4_fail : Room := { frames := 1, cells := 0, slots := 0, locals := 80 }
theorem in_X4_fail_X4 : ∀ w ∈ u_ws RX4 TX4 10, w ∈ wsX4_fail := by decide +kernel
theorem k_X4_fail_18 : Cond.fieldLink RX4 18 "ParityGame$Reader" "errorAt" "I" ∈ wsX4_fail := by decide +kernel
theorem k_X4_fail_35 : Cond.fieldLink RX4 35 "ParityGame$Reader" "error" "I" ∈ wsX4_fail := by decide +kernel
theorem k_X4_fail_71 : Cond.fieldLink RX4 71 "ParityGame$Reader" "start" "I" ∈ wsX4_fail := by decide +kernel
set_option maxHeartbeats 40000000 in
set_option maxRecDepth 100000 in
theorem c_X4_fail (l : Launch) (D : va_G) (X : gX) (cI cZ cB cG : ClassId) (sz : Nat) (q_t : Nat) (q_t_text : Nat) (q_t_game : Nat) (a1 : Int32) (t_error : Int32) (t_errorAt : Int32) (t_length : Int32) (t_kind : Int32) (t_start : Int32) (t_end : Int32) (t_value : Int32) (t_laid : Int32) (post : Int32 → Int32 → Prop) (hf : wp_X4_fail a1 t_error t_errorAt t_start post) : Met l yX4_fail wsX4_fail rm_X4_fail (gP D X (gT cI cZ cB cG) sz [.ref q_t, .int a1] (wd_X4_fail cI cZ cB cG q_t q_t_text q_t_game t_error t_errorAt t_length t_kind t_start t_end t_value t_laid)) (va_Qv (fun (u : Int32 × Int32) => post u.1 u.2) (fun u t => gB D (gT cI cZ cB cG) (va_A (wd_X4_fail cI cZ cB cG q_t q_t_text q_t_game t_error t_errorAt t_length t_kind t_start t_end t_value t_laid) sz) (wd_X4_fail cI cZ cB cG q_t q_t_text q_t_game u.1 u.2 t_length t_kind t_start t_end t_value t_laid) t) (va_A (wd_X4_fail cI cZ cB cG q_t q_t_text q_t_game t_error t_errorAt t_length t_kind t_start t_end t_value t_laid) sz)) 0 0 (va_A (wd_X4_fail cI cZ cB cG q_t q_t_text q_t_game t_error t_errorAt t_length t_kind t_start t_end t_value t_laid) sz) := by
  refine g_ofWv (cc := cX4_fail) (maxL := 2) (by decide +kernel) (Nat.le_of_ble_eq_true rfl) rfl ?_
  intro p e s m args below meth c A Q hx hb hml hown hts hA hK hE H hP hD hS ls hl hret
  have hinX4 := in_X4_fail_X4
  have k18 := hts _ k_X4_fail_18
  have k35 := hts _ k_X4_fail_35
  have k71 := hts _ k_X4_fail_71
  have hl : lv_has ls 2 [(0, .ref q_t), (1, .int a1)] := hl
  unfold wp_X4_fail at hf
  refine lv_aload_n hx hb dX4_fail_0 rfl (lv_at hl 0 rfl) ?_
  refine va_get (D := D) (ci := 4) (v := .int t_error) (C := RX4) (T := TX4) (N := 10) hx hb hts hinX4 hown hK hP 0 rfl rfl 2 (by decide) k35 (fun _ h9 => h9) rfl dX4_fail_1 ?_
  refine lv_if_ne (tgt := 20) hx hb dX4_fail_4 (by decide) (fun hc => ?_) (fun hc => ?_)
  · have hf := hf.1 hc
    exact hret (t_error, t_errorAt) hf hP hD hS dX4_fail_20
  · have hf := hf.2 hc
    refine lv_aload_n hx hb dX4_fail_7 rfl (lv_at hl 0 rfl) ?_
    refine lv_iload_n hx hb dX4_fail_8 rfl (lv_at hl 1 rfl) ?_
    refine va_put (D := D) (ci := 4) (v := .int a1) (ty := .int) (C := RX4) (T := TX4) (N := 10) hx hb hts hinX4 tyX4 tyX4_ok nmX4 hown hK hP hD hS 0 rfl rfl 2 (by decide) k35 (fun _ h9 => h9) rfl (by decide +kernel) rfl rfl (Nat.le_of_ble_eq_true rfl) dX4_fail_9 (fun H locs hP hD hS => ?_)
    have hP : va_P D vwCl (wd_X4_fail cI cZ cB cG q_t q_t_text q_t_game a1 t_errorAt t_length t_kind t_start t_end t_value t_laid) H := hP
    have hD : va_D A (wd_X4_fail cI cZ cB cG q_t q_t_text q_t_game a1 t_errorAt t_length t_kind t_start t_end t_value t_laid) := hD
    refine lv_aload_n hx hb dX4_fail_12 rfl (lv_at hl 0 rfl) ?_
    refine lv_aload_n hx hb dX4_fail_13 rfl (lv_at hl 0 rfl) ?_
    refine va_get (D := D) (ci := 4) (v := .int t_start) (C := RX4) (T := TX4) (N := 10) hx hb hts hinX4 hown hK hP 0 rfl rfl 6 (by decide) k71 (fun _ h9 => h9) rfl dX4_fail_14 ?_
    refine va_put (D := D) (ci := 4) (v := .int t_start) (ty := .int) (C := RX4) (T := TX4) (N := 10) hx hb hts hinX4 tyX4 tyX4_ok nmX4 hown hK hP hD hS 0 rfl rfl 3 (by decide) k18 (fun _ h9 => h9) rfl (by decide +kernel) rfl rfl (Nat.le_of_ble_eq_true rfl) dX4_fail_17 (fun H locs hP hD hS => ?_)
    have hP : va_P D vwCl (wd_X4_fail cI cZ cB cG q_t q_t_text q_t_game a1 t_start t_length t_kind t_start t_end t_value t_laid) H := hP
    have hD : va_D A (wd_X4_fail cI cZ cB cG q_t q_t_text q_t_game a1 t_start t_length t_kind t_start t_end t_value t_laid) := hD
    exact hret (a1, t_start) hf hP hD hS dX4_fail_20
abbrev wd_X4_blanksEnd (cI cZ cB cG : ClassId) (q_t : Nat) (q_t_text : Nat) (q_t_game : Nat) (t_error : Int32) (t_errorAt : Int32) (t_length : Int32) (t_kind : Int32) (t_start : Int32) (t_end : Int32) (t_value : Int32) (t_laid : Int32) (t_text : (Nat → Int32)) : va_W := [(q_t, .inr (4, [.ref q_t_text, .ref q_t_game, .int t_error, .int t_errorAt, .int t_length, .int t_kind, .int t_start, .int t_end, .int t_value, .int t_laid])), (q_t_text, .inl (cI, 600, .inl t_text))]
def F_X4_blanksEnd_2 (t_length : Int32) (t_text : (Nat → Int32)) (K0 : Int32 → Prop) (rec : Int32 → Prop) (v2 : Int32) : Prop := ((t_length ≤ v2 → (K0 v2)) ∧ (¬ (t_length ≤ v2) → (vp_in v2 600 ∧ (((t_text v2.toNatClampNeg) = (32 : Int32) → (rec ((v2 + (1 : Int32))))) ∧ (¬ ((t_text v2.toNatClampNeg) = (32 : Int32)) → (vp_in v2 600 ∧ ((¬ (t_text v2.toNatClampNeg) = (10 : Int32) → (K0 v2)) ∧ ((t_text v2.toNatClampNeg) = (10 : Int32) → (rec ((v2 + (1 : Int32))))))))))))
def wp_X4_blanksEnd (a1 : Int32) (t_length : Int32) (t_text : (Nat → Int32)) (post : Int32 → Prop) : Prop := (∃ n, fx1 (F_X4_blanksEnd_2 t_length t_text (fun v2_1 => (post v2_1))) n a1)
abbrev rm_X4_blanksEnd : Room := { frames := 1, cells := 0, slots := 0, locals := 80 }
theorem in_X4_blanksEnd_X4 : ∀ w ∈ u_ws RX4 TX4 10, w ∈ wsX4_blanksEnd := by decide +kernel
theorem k_X4_blanksEnd_22 : Cond.fieldLink RX4 22 "ParityGame$Reader" "text" "[I" ∈ wsX4_blanksEnd := by decide +kernel
theorem k_X4_blanksEnd_32 : Cond.fieldLink RX4 32 "ParityGame$Reader" "length" "I" ∈ wsX4_blanksEnd := by decide +kernel
set_option maxHeartbeats 40000000 in
set_option maxRecDepth 100000 in
theorem c_X4_blanksEnd (l : Launch) (D : va_G) (X : gX) (cI cZ cB cG : ClassId) (sz : Nat) (q_t : Nat) (q_t_text : Nat) (q_t_game : Nat) (a1 : Int32) (t_error : Int32) (t_errorAt : Int32) (t_length : Int32) (t_kind : Int32) (t_start : Int32) (t_end : Int32) (t_value : Int32) (t_laid : Int32) (t_text : (Nat → Int32)) (post : Int32 → Prop) (hf : wp_X4_blanksEnd a1 t_length t_text post) : Met l yX4_blanksEnd wsX4_blanksEnd rm_X4_blanksEnd (gP D X (gT cI cZ cB cG) sz [.ref q_t, .int a1] (wd_X4_blanksEnd cI cZ cB cG q_t q_t_text q_t_game t_error t_errorAt t_length t_kind t_start t_end t_value t_laid t_text)) (va_Qi (fun (r : Int32) (u : Unit) => post r) (fun u t => gB D (gT cI cZ cB cG) (va_A (wd_X4_blanksEnd cI cZ cB cG q_t q_t_text q_t_game t_error t_errorAt t_length t_kind t_start t_end t_value t_laid t_text) sz) (wd_X4_blanksEnd cI cZ cB cG q_t q_t_text q_t_game t_error t_errorAt t_length t_kind t_start t_end t_value t_laid t_text) t) (va_A (wd_X4_blanksEnd cI cZ cB cG q_t q_t_text q_t_game t_error t_errorAt t_length t_kind t_start t_end t_value t_laid t_text) sz)) 0 0 (va_A (wd_X4_blanksEnd cI cZ cB cG q_t q_t_text q_t_game t_error t_errorAt t_length t_kind t_start t_end t_value t_laid t_text) sz) := by
  refine g_ofWi (cc := cX4_blanksEnd) (maxL := 3) (by decide +kernel) (Nat.le_of_ble_eq_true rfl) rfl ?_
  intro p e s m args below meth c A Q hx hb hml hown hts hA hK hE H hP hD hS ls hl hret
  have hinX4 := in_X4_blanksEnd_X4
  have k22 := hts _ k_X4_blanksEnd_22
  have k32 := hts _ k_X4_blanksEnd_32
  have hl : lv_has ls 3 [(0, .ref q_t), (1, .int a1)] := hl
  have L2 : ∀ (K0 : Int32 → Prop) (_ : ∀ (v2 : Int32) (H : Heap) (locs : List Loc) (ls : Array Slot), K0 v2 → va_P D vwCl (wd_X4_blanksEnd cI cZ cB cG q_t q_t_text q_t_game t_error t_errorAt t_length t_kind t_start t_end t_value t_laid t_text) H → va_D A (wd_X4_blanksEnd cI cZ cB cG q_t q_t_text q_t_game t_error t_errorAt t_length t_kind t_start t_end t_value t_laid t_text) → va_S A s.heap H locs → lv_has ls 3 [(2, .int v2)] → W p l e (rm_X4_blanksEnd) s m args below meth c H locs 0 0 Q (F0 m 38 ls []))  (n : Nat) (v2 : Int32) (H : Heap) (locs : List Loc) (ls : Array Slot), fx1 (F_X4_blanksEnd_2 t_length t_text K0) n v2 → va_P D vwCl (wd_X4_blanksEnd cI cZ cB cG q_t q_t_text q_t_game t_error t_errorAt t_length t_kind t_start t_end t_value t_laid t_text) H → va_D A (wd_X4_blanksEnd cI cZ cB cG q_t q_t_text q_t_game t_error t_errorAt t_length t_kind t_start t_end t_value t_laid t_text) → va_S A s.heap H locs → lv_has ls 3 [(0, .ref q_t), (2, .int v2)] → W p l e (rm_X4_blanksEnd) s m args below meth c H locs 0 0 Q (F0 m 2 ls []) := by
    intro K0 hK0 n
    induction n with
    | zero => intro v2 H locs ls hf; exact (hf : False).elim
    | succ n ih =>
      intro v2 H locs ls hf hP hD hS hl
      have hf : F_X4_blanksEnd_2 t_length t_text K0 (fx1 (F_X4_blanksEnd_2 t_length t_text K0) n) v2 := hf
      unfold F_X4_blanksEnd_2 at hf
      refine lv_iload_n hx hb dX4_blanksEnd_2 rfl (lv_at hl 1 rfl) ?_
      refine lv_aload_n hx hb dX4_blanksEnd_3 rfl (lv_at hl 0 rfl) ?_
      refine va_get (D := D) (ci := 4) (v := .int t_length) (C := RX4) (T := TX4) (N := 10) hx hb hts hinX4 hown hK hP 0 rfl rfl 4 (by decide) k32 (fun _ h9 => h9) rfl dX4_blanksEnd_4 ?_
      refine lv_icmp_ge (tgt := 38) hx hb dX4_blanksEnd_7 (by decide) (fun hc => ?_) (fun hc => ?_)
      · have hf := hf.1 hc
        exact hK0 _ _ _ _ hf hP hD hS (lv_sub hl [1] rfl)
      · have hf := hf.2 hc
        refine lv_aload_n hx hb dX4_blanksEnd_10 rfl (lv_at hl 0 rfl) ?_
        refine va_get (D := D) (ci := 4) (v := .ref q_t_text) (C := RX4) (T := TX4) (N := 10) hx hb hts hinX4 hown hK hP 0 rfl rfl 0 (by decide) k22 (fun _ h9 => h9) rfl dX4_blanksEnd_11 ?_
        refine lv_iload_n hx hb dX4_blanksEnd_14 rfl (lv_at hl 1 rfl) ?_
        refine va_iald hx hb hK hP 1 0 rfl rfl (n := 600) hf.1 dX4_blanksEnd_15 ?_
        have hf := hf.2
        refine lv_bipush (v := (32 : Int32)) hx hb dX4_blanksEnd_16 (by decide) ?_
        refine lv_icmp_eq (tgt := 32) hx hb dX4_blanksEnd_18 (by decide) (fun hc => ?_) (fun hc => ?_)
        · have hf := hf.1 hc
          refine lv_iinc (v := (v2 + (1 : Int32))) (lv' := [(2, .int ((v2 + (1 : Int32)))), (0, .ref q_t)]) hx hb dX4_blanksEnd_32 hl (k := 1) rfl rfl (by decide) rfl (fun ls hl => ?_)
          refine lv_goto (tgt := 2) hx hb dX4_blanksEnd_35 (by decide) ?_
          exact ih _ _ _ _ hf hP hD hS (lv_sub hl [1, 0] rfl)
        · have hf := hf.2 hc
          refine lv_aload_n hx hb dX4_blanksEnd_21 rfl (lv_at hl 0 rfl) ?_
          refine va_get (D := D) (ci := 4) (v := .ref q_t_text) (C := RX4) (T := TX4) (N := 10) hx hb hts hinX4 hown hK hP 0 rfl rfl 0 (by decide) k22 (fun _ h9 => h9) rfl dX4_blanksEnd_22 ?_
          refine lv_iload_n hx hb dX4_blanksEnd_25 rfl (lv_at hl 1 rfl) ?_
          refine va_iald hx hb hK hP 1 0 rfl rfl (n := 600) hf.1 dX4_blanksEnd_26 ?_
          have hf := hf.2
          refine lv_bipush (v := (10 : Int32)) hx hb dX4_blanksEnd_27 (by decide) ?_
          refine lv_icmp_ne (tgt := 38) hx hb dX4_blanksEnd_29 (by decide) (fun hc => ?_) (fun hc => ?_)
          · have hf := hf.1 hc
            exact hK0 _ _ _ _ hf hP hD hS (lv_sub hl [1] rfl)
          · have hf := hf.2 hc
            refine lv_iinc (v := (v2 + (1 : Int32))) (lv' := [(2, .int ((v2 + (1 : Int32)))), (0, .ref q_t)]) hx hb dX4_blanksEnd_32 hl (k := 1) rfl rfl (by decide) rfl (fun ls hl => ?_)
            refine lv_goto (tgt := 2) hx hb dX4_blanksEnd_35 (by decide) ?_
            exact ih _ _ _ _ hf hP hD hS (lv_sub hl [1, 0] rfl)
  unfold wp_X4_blanksEnd at hf
  refine lv_iload_n hx hb dX4_blanksEnd_0 rfl (lv_at hl 1 rfl) ?_
  refine lv_istore_n (lv' := [(2, .int a1), (0, .ref q_t), (1, .int a1)]) hx hb dX4_blanksEnd_1 rfl hl (by decide) rfl (fun ls hl => ?_)
  obtain ⟨n, hf⟩ := hf
  refine L2 _ ?_  n _ _ _ _ hf hP hD hS (lv_sub hl [1, 0] rfl)
  intro v2_1 H locs ls hf hP hD hS hl
  refine lv_iload_n hx hb dX4_blanksEnd_38 rfl (lv_at hl 0 rfl) ?_
  exact hret v2_1 () hf hP hD hS dX4_blanksEnd_39
abbrev wd_X4_runEnd (cI cZ cB cG : ClassId) (q_t : Nat) (q_t_text : Nat) (q_t_game : Nat) (t_error : Int32) (t_errorAt : Int32) (t_length : Int32) (t_kind : Int32) (t_start : Int32) (t_end : Int32) (t_value : Int32) (t_laid : Int32) (t_text : (Nat → Int32)) : va_W := [(q_t, .inr (4, [.ref q_t_text, .ref q_t_game, .int t_error, .int t_errorAt, .int t_length, .int t_kind, .int t_start, .int t_end, .int t_value, .int t_laid])), (q_t_text, .inl (cI, 600, .inl t_text))]
def F_X4_runEnd_5 (v1 : Int32) (v2 : Int32) (t_length : Int32) (t_text : (Nat → Int32)) (K0 : Int32 → Prop) (rec : Int32 → Prop) (v3 : Int32) : Prop := ((t_length ≤ v3 → (K0 v3)) ∧ (¬ (t_length ≤ v3) → (vp_in v3 600 ∧ (((t_text v3.toNatClampNeg) < v1 → (K0 v3)) ∧ (¬ ((t_text v3.toNatClampNeg) < v1) → (vp_in v3 600 ∧ ((v2 < (t_text v3.toNatClampNeg) → (K0 v3)) ∧ (¬ (v2 < (t_text v3.toNatClampNeg)) → (rec ((v3 + (1 : Int32))))))))))))
def wp_X4_runEnd (a1 : Int32) (a2 : Int32) (t_length : Int32) (t_start : Int32) (t_text : (Nat → Int32)) (post : Int32 → Prop) : Prop := (∃ n, fx1 (F_X4_runEnd_5 a1 a2 t_length t_text (fun v3_1 => (post v3_1))) n t_start)
abbrev rm_X4_runEnd : Room := { frames := 1, cells := 0, slots := 0, locals := 80 }
theorem in_X4_runEnd_X4 : ∀ w ∈ u_ws RX4 TX4 10, w ∈ wsX4_runEnd := by decide +kernel
theorem k_X4_runEnd_22 : Cond.fieldLink RX4 22 "ParityGame$Reader" "text" "[I" ∈ wsX4_runEnd := by decide +kernel
theorem k_X4_runEnd_32 : Cond.fieldLink RX4 32 "ParityGame$Reader" "length" "I" ∈ wsX4_runEnd := by decide +kernel
theorem k_X4_runEnd_71 : Cond.fieldLink RX4 71 "ParityGame$Reader" "start" "I" ∈ wsX4_runEnd := by decide +kernel
set_option maxHeartbeats 40000000 in
set_option maxRecDepth 100000 in
theorem c_X4_runEnd (l : Launch) (D : va_G) (X : gX) (cI cZ cB cG : ClassId) (sz : Nat) (q_t : Nat) (q_t_text : Nat) (q_t_game : Nat) (a1 : Int32) (a2 : Int32) (t_error : Int32) (t_errorAt : Int32) (t_length : Int32) (t_kind : Int32) (t_start : Int32) (t_end : Int32) (t_value : Int32) (t_laid : Int32) (t_text : (Nat → Int32)) (post : Int32 → Prop) (hf : wp_X4_runEnd a1 a2 t_length t_start t_text post) : Met l yX4_runEnd wsX4_runEnd rm_X4_runEnd (gP D X (gT cI cZ cB cG) sz [.ref q_t, .int a1, .int a2] (wd_X4_runEnd cI cZ cB cG q_t q_t_text q_t_game t_error t_errorAt t_length t_kind t_start t_end t_value t_laid t_text)) (va_Qi (fun (r : Int32) (u : Unit) => post r) (fun u t => gB D (gT cI cZ cB cG) (va_A (wd_X4_runEnd cI cZ cB cG q_t q_t_text q_t_game t_error t_errorAt t_length t_kind t_start t_end t_value t_laid t_text) sz) (wd_X4_runEnd cI cZ cB cG q_t q_t_text q_t_game t_error t_errorAt t_length t_kind t_start t_end t_value t_laid t_text) t) (va_A (wd_X4_runEnd cI cZ cB cG q_t q_t_text q_t_game t_error t_errorAt t_length t_kind t_start t_end t_value t_laid t_text) sz)) 0 0 (va_A (wd_X4_runEnd cI cZ cB cG q_t q_t_text q_t_game t_error t_errorAt t_length t_kind t_start t_end t_value t_laid t_text) sz) := by
  refine g_ofWi (cc := cX4_runEnd) (maxL := 4) (by decide +kernel) (Nat.le_of_ble_eq_true rfl) rfl ?_
  intro p e s m args below meth c A Q hx hb hml hown hts hA hK hE H hP hD hS ls hl hret
  have hinX4 := in_X4_runEnd_X4
  have k22 := hts _ k_X4_runEnd_22
  have k32 := hts _ k_X4_runEnd_32
  have k71 := hts _ k_X4_runEnd_71
  have hl : lv_has ls 4 [(0, .ref q_t), (1, .int a1), (2, .int a2)] := hl
  have L5 : ∀ (v1 : Int32) (v2 : Int32) (K0 : Int32 → Prop) (_ : ∀ (v3 : Int32) (H : Heap) (locs : List Loc) (ls : Array Slot), K0 v3 → va_P D vwCl (wd_X4_runEnd cI cZ cB cG q_t q_t_text q_t_game t_error t_errorAt t_length t_kind t_start t_end t_value t_laid t_text) H → va_D A (wd_X4_runEnd cI cZ cB cG q_t q_t_text q_t_game t_error t_errorAt t_length t_kind t_start t_end t_value t_laid t_text) → va_S A s.heap H locs → lv_has ls 4 [(3, .int v3)] → W p l e (rm_X4_runEnd) s m args below meth c H locs 0 0 Q (F0 m 39 ls []))  (n : Nat) (v3 : Int32) (H : Heap) (locs : List Loc) (ls : Array Slot), fx1 (F_X4_runEnd_5 v1 v2 t_length t_text K0) n v3 → va_P D vwCl (wd_X4_runEnd cI cZ cB cG q_t q_t_text q_t_game t_error t_errorAt t_length t_kind t_start t_end t_value t_laid t_text) H → va_D A (wd_X4_runEnd cI cZ cB cG q_t q_t_text q_t_game t_error t_errorAt t_length t_kind t_start t_end t_value t_laid t_text) → va_S A s.heap H locs → lv_has ls 4 [(0, .ref q_t), (1, .int v1), (2, .int v2), (3, .int v3)] → W p l e (rm_X4_runEnd) s m args below meth c H locs 0 0 Q (F0 m 5 ls []) := by
    intro v1 v2 K0 hK0 n
    induction n with
    | zero => intro v3 H locs ls hf; exact (hf : False).elim
    | succ n ih =>
      intro v3 H locs ls hf hP hD hS hl
      have hf : F_X4_runEnd_5 v1 v2 t_length t_text K0 (fx1 (F_X4_runEnd_5 v1 v2 t_length t_text K0) n) v3 := hf
      unfold F_X4_runEnd_5 at hf
      refine lv_iload_n hx hb dX4_runEnd_5 rfl (lv_at hl 3 rfl) ?_
      refine lv_aload_n hx hb dX4_runEnd_6 rfl (lv_at hl 0 rfl) ?_
      refine va_get (D := D) (ci := 4) (v := .int t_length) (C := RX4) (T := TX4) (N := 10) hx hb hts hinX4 hown hK hP 0 rfl rfl 4 (by decide) k32 (fun _ h9 => h9) rfl dX4_runEnd_7 ?_
      refine lv_icmp_ge (tgt := 39) hx hb dX4_runEnd_10 (by decide) (fun hc => ?_) (fun hc => ?_)
      · have hf := hf.1 hc
        exact hK0 _ _ _ _ hf hP hD hS (lv_sub hl [3] rfl)
      · have hf := hf.2 hc
        refine lv_aload_n hx hb dX4_runEnd_13 rfl (lv_at hl 0 rfl) ?_
        refine va_get (D := D) (ci := 4) (v := .ref q_t_text) (C := RX4) (T := TX4) (N := 10) hx hb hts hinX4 hown hK hP 0 rfl rfl 0 (by decide) k22 (fun _ h9 => h9) rfl dX4_runEnd_14 ?_
        refine lv_iload_n hx hb dX4_runEnd_17 rfl (lv_at hl 3 rfl) ?_
        refine va_iald hx hb hK hP 1 0 rfl rfl (n := 600) hf.1 dX4_runEnd_18 ?_
        have hf := hf.2
        refine lv_iload_n hx hb dX4_runEnd_19 rfl (lv_at hl 1 rfl) ?_
        refine lv_icmp_lt (tgt := 39) hx hb dX4_runEnd_20 (by decide) (fun hc => ?_) (fun hc => ?_)
        · have hf := hf.1 hc
          exact hK0 _ _ _ _ hf hP hD hS (lv_sub hl [3] rfl)
        · have hf := hf.2 hc
          refine lv_aload_n hx hb dX4_runEnd_23 rfl (lv_at hl 0 rfl) ?_
          refine va_get (D := D) (ci := 4) (v := .ref q_t_text) (C := RX4) (T := TX4) (N := 10) hx hb hts hinX4 hown hK hP 0 rfl rfl 0 (by decide) k22 (fun _ h9 => h9) rfl dX4_runEnd_24 ?_
          refine lv_iload_n hx hb dX4_runEnd_27 rfl (lv_at hl 3 rfl) ?_
          refine va_iald hx hb hK hP 1 0 rfl rfl (n := 600) hf.1 dX4_runEnd_28 ?_
          have hf := hf.2
          refine lv_iload_n hx hb dX4_runEnd_29 rfl (lv_at hl 2 rfl) ?_
          refine lv_icmp_gt (tgt := 39) hx hb dX4_runEnd_30 (by decide) (fun hc => ?_) (fun hc => ?_)
          · have hf := hf.1 hc
            exact hK0 _ _ _ _ hf hP hD hS (lv_sub hl [3] rfl)
          · have hf := hf.2 hc
            refine lv_iinc (v := (v3 + (1 : Int32))) (lv' := [(3, .int ((v3 + (1 : Int32)))), (0, .ref q_t), (1, .int v1), (2, .int v2)]) hx hb dX4_runEnd_33 hl (k := 3) rfl rfl (by decide) rfl (fun ls hl => ?_)
            refine lv_goto (tgt := 5) hx hb dX4_runEnd_36 (by decide) ?_
            exact ih _ _ _ _ hf hP hD hS (lv_sub hl [1, 2, 3, 0] rfl)
  unfold wp_X4_runEnd at hf
  refine lv_aload_n hx hb dX4_runEnd_0 rfl (lv_at hl 0 rfl) ?_
  refine va_get (D := D) (ci := 4) (v := .int t_start) (C := RX4) (T := TX4) (N := 10) hx hb hts hinX4 hown hK hP 0 rfl rfl 6 (by decide) k71 (fun _ h9 => h9) rfl dX4_runEnd_1 ?_
  refine lv_istore_n (lv' := [(3, .int t_start), (0, .ref q_t), (1, .int a1), (2, .int a2)]) hx hb dX4_runEnd_4 rfl hl (by decide) rfl (fun ls hl => ?_)
  obtain ⟨n, hf⟩ := hf
  refine L5 a1 a2 _ ?_  n _ _ _ _ hf hP hD hS (lv_sub hl [1, 2, 3, 0] rfl)
  intro v3_1 H locs ls hf hP hD hS hl
  refine lv_iload_n hx hb dX4_runEnd_39 rfl (lv_at hl 0 rfl) ?_
  exact hret v3_1 () hf hP hD hS dX4_runEnd_40
abbrev wd_X4_takeValue (cI cZ cB cG : ClassId) (q_t : Nat) (q_t_text : Nat) (q_t_game : Nat) (t_error : Int32) (t_errorAt : Int32) (t_length : Int32) (t_kind : Int32) (t_start : Int32) (t_end : Int32) (t_value : Int32) (t_laid : Int32) (t_text : (Nat → Int32)) : va_W := [(q_t, .inr (4, [.ref q_t_text, .ref q_t_game, .int t_error, .int t_errorAt, .int t_length, .int t_kind, .int t_start, .int t_end, .int t_value, .int t_laid])), (q_t_text, .inl (cI, 600, .inl t_text))]
def F_X4_takeValue_10 (t_end : Int32) (t_text : (Nat → Int32)) (K0 : Int32 → Int32 → Prop) (rec : Int32 → Int32 → Prop) (v1 : Int32) (t_value : Int32) : Prop := ((t_end ≤ v1 → (K0 v1 t_value)) ∧ (¬ (t_end ≤ v1) → (vp_in v1 600 ∧ (rec ((v1 + (1 : Int32))) (((((10 : Int32) * t_value) + (t_text v1.toNatClampNeg)) - (48 : Int32)))))))
def wp_X4_takeValue (t_start : Int32) (t_end : Int32) (t_text : (Nat → Int32)) (post : Int32 → Prop) : Prop := (∃ n, fx2 (F_X4_takeValue_10 t_end t_text (fun v1_1 t_value_2 => (post t_value_2))) n t_start (0 : Int32))
abbrev rm_X4_takeValue : Room := { frames := 1, cells := 0, slots := 0, locals := 80 }
theorem in_X4_takeValue_X4 : ∀ w ∈ u_ws RX4 TX4 10, w ∈ wsX4_takeValue := by decide +kernel
theorem k_X4_takeValue_22 : Cond.fieldLink RX4 22 "ParityGame$Reader" "text" "[I" ∈ wsX4_takeValue := by decide +kernel
theorem k_X4_takeValue_41 : Cond.fieldLink RX4 41 "ParityGame$Reader" "end" "I" ∈ wsX4_takeValue := by decide +kernel
theorem k_X4_takeValue_71 : Cond.fieldLink RX4 71 "ParityGame$Reader" "start" "I" ∈ wsX4_takeValue := by decide +kernel
theorem k_X4_takeValue_94 : Cond.fieldLink RX4 94 "ParityGame$Reader" "value" "I" ∈ wsX4_takeValue := by decide +kernel
set_option maxHeartbeats 40000000 in
set_option maxRecDepth 100000 in
theorem c_X4_takeValue (l : Launch) (D : va_G) (X : gX) (cI cZ cB cG : ClassId) (sz : Nat) (q_t : Nat) (q_t_text : Nat) (q_t_game : Nat) (t_error : Int32) (t_errorAt : Int32) (t_length : Int32) (t_kind : Int32) (t_start : Int32) (t_end : Int32) (t_value : Int32) (t_laid : Int32) (t_text : (Nat → Int32)) (post : Int32 → Prop) (hf : wp_X4_takeValue t_start t_end t_text post) : Met l yX4_takeValue wsX4_takeValue rm_X4_takeValue (gP D X (gT cI cZ cB cG) sz [.ref q_t] (wd_X4_takeValue cI cZ cB cG q_t q_t_text q_t_game t_error t_errorAt t_length t_kind t_start t_end t_value t_laid t_text)) (va_Qv (fun (u : Int32) => post u) (fun u t => gB D (gT cI cZ cB cG) (va_A (wd_X4_takeValue cI cZ cB cG q_t q_t_text q_t_game t_error t_errorAt t_length t_kind t_start t_end t_value t_laid t_text) sz) (wd_X4_takeValue cI cZ cB cG q_t q_t_text q_t_game t_error t_errorAt t_length t_kind t_start t_end u t_laid t_text) t) (va_A (wd_X4_takeValue cI cZ cB cG q_t q_t_text q_t_game t_error t_errorAt t_length t_kind t_start t_end t_value t_laid t_text) sz)) 0 0 (va_A (wd_X4_takeValue cI cZ cB cG q_t q_t_text q_t_game t_error t_errorAt t_length t_kind t_start t_end t_value t_laid t_text) sz) := by
  refine g_ofWv (cc := cX4_takeValue) (maxL := 2) (by decide +kernel) (Nat.le_of_ble_eq_true rfl) rfl ?_
  intro p e s m args below meth c A Q hx hb hml hown hts hA hK hE H hP hD hS ls hl hret
  have hinX4 := in_X4_takeValue_X4
  have k22 := hts _ k_X4_takeValue_22
  have k41 := hts _ k_X4_takeValue_41
  have k71 := hts _ k_X4_takeValue_71
  have k94 := hts _ k_X4_takeValue_94
  have hl : lv_has ls 2 [(0, .ref q_t)] := hl
  have L10 : ∀ (K0 : Int32 → Int32 → Prop) (_ : ∀ (v1 : Int32) (t_value : Int32) (H : Heap) (locs : List Loc) (ls : Array Slot), K0 v1 t_value → va_P D vwCl (wd_X4_takeValue cI cZ cB cG q_t q_t_text q_t_game t_error t_errorAt t_length t_kind t_start t_end t_value t_laid t_text) H → va_D A (wd_X4_takeValue cI cZ cB cG q_t q_t_text q_t_game t_error t_errorAt t_length t_kind t_start t_end t_value t_laid t_text) → va_S A s.heap H locs → lv_has ls 2 [] → W p l e (rm_X4_takeValue) s m args below meth c H locs 0 0 Q (F0 m 45 ls []))  (n : Nat) (v1 : Int32) (t_value : Int32) (H : Heap) (locs : List Loc) (ls : Array Slot), fx2 (F_X4_takeValue_10 t_end t_text K0) n v1 t_value → va_P D vwCl (wd_X4_takeValue cI cZ cB cG q_t q_t_text q_t_game t_error t_errorAt t_length t_kind t_start t_end t_value t_laid t_text) H → va_D A (wd_X4_takeValue cI cZ cB cG q_t q_t_text q_t_game t_error t_errorAt t_length t_kind t_start t_end t_value t_laid t_text) → va_S A s.heap H locs → lv_has ls 2 [(0, .ref q_t), (1, .int v1)] → W p l e (rm_X4_takeValue) s m args below meth c H locs 0 0 Q (F0 m 10 ls []) := by
    intro K0 hK0 n
    induction n with
    | zero => intro v1 t_value H locs ls hf; exact (hf : False).elim
    | succ n ih =>
      intro v1 t_value H locs ls hf hP hD hS hl
      have hf : F_X4_takeValue_10 t_end t_text K0 (fx2 (F_X4_takeValue_10 t_end t_text K0) n) v1 t_value := hf
      unfold F_X4_takeValue_10 at hf
      refine lv_iload_n hx hb dX4_takeValue_10 rfl (lv_at hl 1 rfl) ?_
      refine lv_aload_n hx hb dX4_takeValue_11 rfl (lv_at hl 0 rfl) ?_
      refine va_get (D := D) (ci := 4) (v := .int t_end) (C := RX4) (T := TX4) (N := 10) hx hb hts hinX4 hown hK hP 0 rfl rfl 7 (by decide) k41 (fun _ h9 => h9) rfl dX4_takeValue_12 ?_
      refine lv_icmp_ge (tgt := 45) hx hb dX4_takeValue_15 (by decide) (fun hc => ?_) (fun hc => ?_)
      · have hf := hf.1 hc
        exact hK0 _ _ _ _ _ hf hP hD hS (lv_sub hl [] rfl)
      · have hf := hf.2 hc
        refine lv_aload_n hx hb dX4_takeValue_18 rfl (lv_at hl 0 rfl) ?_
        refine lv_bipush (v := (10 : Int32)) hx hb dX4_takeValue_19 (by decide) ?_
        refine lv_aload_n hx hb dX4_takeValue_21 rfl (lv_at hl 0 rfl) ?_
        refine va_get (D := D) (ci := 4) (v := .int t_value) (C := RX4) (T := TX4) (N := 10) hx hb hts hinX4 hown hK hP 0 rfl rfl 8 (by decide) k94 (fun _ h9 => h9) rfl dX4_takeValue_22 ?_
        refine lv_imul hx hb dX4_takeValue_25 ?_
        refine lv_aload_n hx hb dX4_takeValue_26 rfl (lv_at hl 0 rfl) ?_
        refine va_get (D := D) (ci := 4) (v := .ref q_t_text) (C := RX4) (T := TX4) (N := 10) hx hb hts hinX4 hown hK hP 0 rfl rfl 0 (by decide) k22 (fun _ h9 => h9) rfl dX4_takeValue_27 ?_
        refine lv_iload_n hx hb dX4_takeValue_30 rfl (lv_at hl 1 rfl) ?_
        refine va_iald hx hb hK hP 1 0 rfl rfl (n := 600) hf.1 dX4_takeValue_31 ?_
        have hf := hf.2
        refine lv_iadd hx hb dX4_takeValue_32 ?_
        refine lv_bipush (v := (48 : Int32)) hx hb dX4_takeValue_33 (by decide) ?_
        refine lv_isub hx hb dX4_takeValue_35 ?_
        refine va_put (D := D) (ci := 4) (v := .int (((((10 : Int32) * t_value) + (t_text v1.toNatClampNeg)) - (48 : Int32)))) (ty := .int) (C := RX4) (T := TX4) (N := 10) hx hb hts hinX4 tyX4 tyX4_ok nmX4 hown hK hP hD hS 0 rfl rfl 8 (by decide) k94 (fun _ h9 => h9) rfl (by decide +kernel) rfl rfl (Nat.le_of_ble_eq_true rfl) dX4_takeValue_36 (fun H locs hP hD hS => ?_)
        have hP : va_P D vwCl (wd_X4_takeValue cI cZ cB cG q_t q_t_text q_t_game t_error t_errorAt t_length t_kind t_start t_end (((((10 : Int32) * t_value) + (t_text v1.toNatClampNeg)) - (48 : Int32))) t_laid t_text) H := hP
        have hD : va_D A (wd_X4_takeValue cI cZ cB cG q_t q_t_text q_t_game t_error t_errorAt t_length t_kind t_start t_end (((((10 : Int32) * t_value) + (t_text v1.toNatClampNeg)) - (48 : Int32))) t_laid t_text) := hD
        refine lv_iinc (v := (v1 + (1 : Int32))) (lv' := [(1, .int ((v1 + (1 : Int32)))), (0, .ref q_t)]) hx hb dX4_takeValue_39 hl (k := 1) rfl rfl (by decide) rfl (fun ls hl => ?_)
        refine lv_goto (tgt := 10) hx hb dX4_takeValue_42 (by decide) ?_
        exact ih _ _ _ _ _ hf hP hD hS (lv_sub hl [1, 0] rfl)
  unfold wp_X4_takeValue at hf
  refine lv_aload_n hx hb dX4_takeValue_0 rfl (lv_at hl 0 rfl) ?_
  refine lv_iconst (v := (0 : Int32)) hx hb dX4_takeValue_1 (by decide) ?_
  refine va_put (D := D) (ci := 4) (v := .int (0 : Int32)) (ty := .int) (C := RX4) (T := TX4) (N := 10) hx hb hts hinX4 tyX4 tyX4_ok nmX4 hown hK hP hD hS 0 rfl rfl 8 (by decide) k94 (fun _ h9 => h9) rfl (by decide +kernel) rfl rfl (Nat.le_of_ble_eq_true rfl) dX4_takeValue_2 (fun H locs hP hD hS => ?_)
  have hP : va_P D vwCl (wd_X4_takeValue cI cZ cB cG q_t q_t_text q_t_game t_error t_errorAt t_length t_kind t_start t_end (0 : Int32) t_laid t_text) H := hP
  have hD : va_D A (wd_X4_takeValue cI cZ cB cG q_t q_t_text q_t_game t_error t_errorAt t_length t_kind t_start t_end (0 : Int32) t_laid t_text) := hD
  refine lv_aload_n hx hb dX4_takeValue_5 rfl (lv_at hl 0 rfl) ?_
  refine va_get (D := D) (ci := 4) (v := .int t_start) (C := RX4) (T := TX4) (N := 10) hx hb hts hinX4 hown hK hP 0 rfl rfl 6 (by decide) k71 (fun _ h9 => h9) rfl dX4_takeValue_6 ?_
  refine lv_istore_n (lv' := [(1, .int t_start), (0, .ref q_t)]) hx hb dX4_takeValue_9 rfl hl (by decide) rfl (fun ls hl => ?_)
  obtain ⟨n, hf⟩ := hf
  refine L10 _ ?_  n _ _ _ _ _ hf hP hD hS (lv_sub hl [1, 0] rfl)
  intro v1_1 t_value_2 H locs ls hf hP hD hS hl
  exact hret t_value_2 hf hP hD hS dX4_takeValue_45
abbrev wd_X4_takeRun (cI cZ cB cG : ClassId) (q_t : Nat) (q_t_text : Nat) (q_t_game : Nat) (t_error : Int32) (t_errorAt : Int32) (t_length : Int32) (t_kind : Int32) (t_start : Int32) (t_end : Int32) (t_value : Int32) (t_laid : Int32) (t_text : (Nat → Int32)) : va_W := [(q_t, .inr (4, [.ref q_t_text, .ref q_t_game, .int t_error, .int t_errorAt, .int t_length, .int t_kind, .int t_start, .int t_end, .int t_value, .int t_laid])), (q_t_text, .inl (cI, 600, .inl t_text))]
def wp_X4_takeRun (t_length : Int32) (t_start : Int32) (t_value : Int32) (t_text : (Nat → Int32)) (post : Int32 → Int32 → Int32 → Prop) : Prop := (wp_X4_runEnd (97 : Int32) (122 : Int32) t_length t_start t_text (fun r_3 => ((r_3 ≤ t_start → (wp_X4_runEnd (48 : Int32) (57 : Int32) t_length t_start t_text (fun r_4 => ((r_4 ≤ t_start → (post (4 : Int32) r_4 t_value)) ∧ (¬ (r_4 ≤ t_start) → (((3 : Int32) < (r_4 - t_start) → (post (4 : Int32) r_4 t_value)) ∧ (¬ ((3 : Int32) < (r_4 - t_start)) → (wp_X4_takeValue t_start r_4 t_text (fun t_value_5 => (post (2 : Int32) r_4 t_value_5)))))))))) ∧ (¬ (r_3 ≤ t_start) → (post (1 : Int32) r_3 t_value)))))
abbrev rm_X4_takeRun : Room := { frames := 2, cells := 0, slots := 0, locals := 103 }
theorem in_X4_takeRun_X4 : ∀ w ∈ u_ws RX4 TX4 10, w ∈ wsX4_takeRun := by decide +kernel
theorem k_X4_takeRun_38 : Cond.fieldLink RX4 38 "ParityGame$Reader" "kind" "I" ∈ wsX4_takeRun := by decide +kernel
theorem k_X4_takeRun_41 : Cond.fieldLink RX4 41 "ParityGame$Reader" "end" "I" ∈ wsX4_takeRun := by decide +kernel
theorem k_X4_takeRun_71 : Cond.fieldLink RX4 71 "ParityGame$Reader" "start" "I" ∈ wsX4_takeRun := by decide +kernel
set_option maxHeartbeats 40000000 in
set_option maxRecDepth 100000 in
theorem c_X4_takeRun (l : Launch) (D : va_G) (X : gX) (cI cZ cB cG : ClassId) (sz : Nat) (q_t : Nat) (q_t_text : Nat) (q_t_game : Nat) (t_error : Int32) (t_errorAt : Int32) (t_length : Int32) (t_kind : Int32) (t_start : Int32) (t_end : Int32) (t_value : Int32) (t_laid : Int32) (t_text : (Nat → Int32)) (post : Int32 → Int32 → Int32 → Prop) (hf : wp_X4_takeRun t_length t_start t_value t_text post) : Met l yX4_takeRun wsX4_takeRun rm_X4_takeRun (gP D X (gT cI cZ cB cG) sz [.ref q_t] (wd_X4_takeRun cI cZ cB cG q_t q_t_text q_t_game t_error t_errorAt t_length t_kind t_start t_end t_value t_laid t_text)) (va_Qv (fun (u : Int32 × Int32 × Int32) => post u.1 u.2.1 u.2.2) (fun u t => gB D (gT cI cZ cB cG) (va_A (wd_X4_takeRun cI cZ cB cG q_t q_t_text q_t_game t_error t_errorAt t_length t_kind t_start t_end t_value t_laid t_text) sz) (wd_X4_takeRun cI cZ cB cG q_t q_t_text q_t_game t_error t_errorAt t_length u.1 t_start u.2.1 u.2.2 t_laid t_text) t) (va_A (wd_X4_takeRun cI cZ cB cG q_t q_t_text q_t_game t_error t_errorAt t_length t_kind t_start t_end t_value t_laid t_text) sz)) 0 0 (va_A (wd_X4_takeRun cI cZ cB cG q_t q_t_text q_t_game t_error t_errorAt t_length t_kind t_start t_end t_value t_laid t_text) sz) := by
  refine g_ofWv (cc := cX4_takeRun) (maxL := 1) (by decide +kernel) (Nat.le_of_ble_eq_true rfl) rfl ?_
  intro p e s m args below meth c A Q hx hb hml hown hts hA hK hE H hP hD hS ls hl hret
  have hinX4 := in_X4_takeRun_X4
  have k38 := hts _ k_X4_takeRun_38
  have k41 := hts _ k_X4_takeRun_41
  have k71 := hts _ k_X4_takeRun_71
  have hl : lv_has ls 1 [(0, .ref q_t)] := hl
  unfold wp_X4_takeRun at hf
  refine lv_aload_n hx hb dX4_takeRun_0 rfl (lv_at hl 0 rfl) ?_
  refine lv_aload_n hx hb dX4_takeRun_1 rfl (lv_at hl 0 rfl) ?_
  refine lv_bipush (v := (97 : Int32)) hx hb dX4_takeRun_2 (by decide) ?_
  refine lv_bipush (v := (122 : Int32)) hx hb dX4_takeRun_4 (by decide) ?_
  have hPc := hP.sub (ws' := (wd_X4_runEnd cI cZ cB cG q_t q_t_text q_t_game t_error t_errorAt t_length t_kind t_start t_end t_value t_laid t_text)) [0, 1] rfl
  have hDc := hD.sub (ws' := (wd_X4_runEnd cI cZ cB cG q_t q_t_text q_t_game t_error t_errorAt t_length t_kind t_start t_end t_value t_laid t_text)) [0, 1] (by decide +kernel) rfl
  have hFc := va_free (wc := (wd_X4_runEnd cI cZ cB cG q_t q_t_text q_t_game t_error t_errorAt t_length t_kind t_start t_end t_value t_laid t_text)) hD hS hA [0, 1] rfl
  refine va_calli (va_runV (As := [.int (97 : Int32), .int (122 : Int32)]) (rest := [.ref q_t]) ⟨hx, hb, hml, hown, hts⟩ (c_X4_runEnd l D X cI cZ cB cG H.size q_t q_t_text q_t_game (97 : Int32) (122 : Int32) t_error t_errorAt t_length t_kind t_start t_end t_value t_laid t_text _ hf) (cwV 2 hts gX4_takeRun_X4_runEnd rfl rfl rfl (by decide +kernel) ⟨Nat.le_of_ble_eq_true rfl, Nat.le_of_ble_eq_true rfl⟩) ⟨g_blind, va_recv hK hPc (ci := 4) (q0 := 0) rfl rfl, fun U hU hW => g_side hU hW hPc hK hDc hE hS hFc⟩ rfl rfl hl.1 rfl (lv_room (Nat.le_of_ble_eq_true rfl)) dX4_takeRun_6 ⟨Nat.zero_le _, Nat.zero_le _⟩) hS (fun q _ h => hFc q h) hFc (fun r_3 u t H1 locs ht hvm hw hB hz1 hk1 hS => ?_)
  obtain ⟨hP1, hK1, hD1⟩ := hB
  rw [ht] at hP1
  obtain ⟨hP, hD⟩ := g_back (wc := (wd_X4_runEnd cI cZ cB cG q_t q_t_text q_t_game t_error t_errorAt t_length t_kind t_start t_end t_value t_laid t_text)) (w1 := (wd_X4_runEnd cI cZ cB cG q_t q_t_text q_t_game t_error t_errorAt t_length t_kind t_start t_end t_value t_laid t_text)) hP hD [0, 1] rfl rfl hk1 hP1
  have hP : va_P D vwCl (wd_X4_takeRun cI cZ cB cG q_t q_t_text q_t_game t_error t_errorAt t_length t_kind t_start t_end t_value t_laid t_text) H1 := hP
  have hD : va_D A (wd_X4_takeRun cI cZ cB cG q_t q_t_text q_t_game t_error t_errorAt t_length t_kind t_start t_end t_value t_laid t_text) := hD
  have hf := hw
  generalize H1 = H at hP hS ⊢
  refine va_put (D := D) (ci := 4) (v := .int r_3) (ty := .int) (C := RX4) (T := TX4) (N := 10) hx hb hts hinX4 tyX4 tyX4_ok nmX4 hown hK hP hD hS 0 rfl rfl 7 (by decide) k41 (fun _ h9 => h9) rfl (by decide +kernel) rfl rfl (Nat.le_of_ble_eq_true rfl) dX4_takeRun_9 (fun H locs hP hD hS => ?_)
  have hP : va_P D vwCl (wd_X4_takeRun cI cZ cB cG q_t q_t_text q_t_game t_error t_errorAt t_length t_kind t_start r_3 t_value t_laid t_text) H := hP
  have hD : va_D A (wd_X4_takeRun cI cZ cB cG q_t q_t_text q_t_game t_error t_errorAt t_length t_kind t_start r_3 t_value t_laid t_text) := hD
  refine lv_aload_n hx hb dX4_takeRun_12 rfl (lv_at hl 0 rfl) ?_
  refine va_get (D := D) (ci := 4) (v := .int r_3) (C := RX4) (T := TX4) (N := 10) hx hb hts hinX4 hown hK hP 0 rfl rfl 7 (by decide) k41 (fun _ h9 => h9) rfl dX4_takeRun_13 ?_
  refine lv_aload_n hx hb dX4_takeRun_16 rfl (lv_at hl 0 rfl) ?_
  refine va_get (D := D) (ci := 4) (v := .int t_start) (C := RX4) (T := TX4) (N := 10) hx hb hts hinX4 hown hK hP 0 rfl rfl 6 (by decide) k71 (fun _ h9 => h9) rfl dX4_takeRun_17 ?_
  refine lv_icmp_le (tgt := 29) hx hb dX4_takeRun_20 (by decide) (fun hc => ?_) (fun hc => ?_)
  · have hf := hf.1 hc
    refine lv_aload_n hx hb dX4_takeRun_29 rfl (lv_at hl 0 rfl) ?_
    refine lv_aload_n hx hb dX4_takeRun_30 rfl (lv_at hl 0 rfl) ?_
    refine lv_bipush (v := (48 : Int32)) hx hb dX4_takeRun_31 (by decide) ?_
    refine lv_bipush (v := (57 : Int32)) hx hb dX4_takeRun_33 (by decide) ?_
    have hPc := hP.sub (ws' := (wd_X4_runEnd cI cZ cB cG q_t q_t_text q_t_game t_error t_errorAt t_length t_kind t_start r_3 t_value t_laid t_text)) [0, 1] rfl
    have hDc := hD.sub (ws' := (wd_X4_runEnd cI cZ cB cG q_t q_t_text q_t_game t_error t_errorAt t_length t_kind t_start r_3 t_value t_laid t_text)) [0, 1] (by decide +kernel) rfl
    have hFc := va_free (wc := (wd_X4_runEnd cI cZ cB cG q_t q_t_text q_t_game t_error t_errorAt t_length t_kind t_start r_3 t_value t_laid t_text)) hD hS hA [0, 1] rfl
    refine va_calli (va_runV (As := [.int (48 : Int32), .int (57 : Int32)]) (rest := [.ref q_t]) ⟨hx, hb, hml, hown, hts⟩ (c_X4_runEnd l D X cI cZ cB cG H.size q_t q_t_text q_t_game (48 : Int32) (57 : Int32) t_error t_errorAt t_length t_kind t_start r_3 t_value t_laid t_text _ hf) (cwV 2 hts gX4_takeRun_X4_runEnd rfl rfl rfl (by decide +kernel) ⟨Nat.le_of_ble_eq_true rfl, Nat.le_of_ble_eq_true rfl⟩) ⟨g_blind, va_recv hK hPc (ci := 4) (q0 := 0) rfl rfl, fun U hU hW => g_side hU hW hPc hK hDc hE hS hFc⟩ rfl rfl hl.1 rfl (lv_room (Nat.le_of_ble_eq_true rfl)) dX4_takeRun_35 ⟨Nat.zero_le _, Nat.zero_le _⟩) hS (fun q _ h => hFc q h) hFc (fun r_4 u t H1 locs ht hvm hw hB hz1 hk1 hS => ?_)
    obtain ⟨hP1, hK1, hD1⟩ := hB
    rw [ht] at hP1
    obtain ⟨hP, hD⟩ := g_back (wc := (wd_X4_runEnd cI cZ cB cG q_t q_t_text q_t_game t_error t_errorAt t_length t_kind t_start r_3 t_value t_laid t_text)) (w1 := (wd_X4_runEnd cI cZ cB cG q_t q_t_text q_t_game t_error t_errorAt t_length t_kind t_start r_3 t_value t_laid t_text)) hP hD [0, 1] rfl rfl hk1 hP1
    have hP : va_P D vwCl (wd_X4_takeRun cI cZ cB cG q_t q_t_text q_t_game t_error t_errorAt t_length t_kind t_start r_3 t_value t_laid t_text) H1 := hP
    have hD : va_D A (wd_X4_takeRun cI cZ cB cG q_t q_t_text q_t_game t_error t_errorAt t_length t_kind t_start r_3 t_value t_laid t_text) := hD
    have hf := hw
    generalize H1 = H at hP hS ⊢
    refine va_put (D := D) (ci := 4) (v := .int r_4) (ty := .int) (C := RX4) (T := TX4) (N := 10) hx hb hts hinX4 tyX4 tyX4_ok nmX4 hown hK hP hD hS 0 rfl rfl 7 (by decide) k41 (fun _ h9 => h9) rfl (by decide +kernel) rfl rfl (Nat.le_of_ble_eq_true rfl) dX4_takeRun_38 (fun H locs hP hD hS => ?_)
    have hP : va_P D vwCl (wd_X4_takeRun cI cZ cB cG q_t q_t_text q_t_game t_error t_errorAt t_length t_kind t_start r_4 t_value t_laid t_text) H := hP
    have hD : va_D A (wd_X4_takeRun cI cZ cB cG q_t q_t_text q_t_game t_error t_errorAt t_length t_kind t_start r_4 t_value t_laid t_text) := hD
    refine lv_aload_n hx hb dX4_takeRun_41 rfl (lv_at hl 0 rfl) ?_
    refine va_get (D := D) (ci := 4) (v := .int r_4) (C := RX4) (T := TX4) (N := 10) hx hb hts hinX4 hown hK hP 0 rfl rfl 7 (by decide) k41 (fun _ h9 => h9) rfl dX4_takeRun_42 ?_
    refine lv_aload_n hx hb dX4_takeRun_45 rfl (lv_at hl 0 rfl) ?_
    refine va_get (D := D) (ci := 4) (v := .int t_start) (C := RX4) (T := TX4) (N := 10) hx hb hts hinX4 hown hK hP 0 rfl rfl 6 (by decide) k71 (fun _ h9 => h9) rfl dX4_takeRun_46 ?_
    refine lv_icmp_le (tgt := 75) hx hb dX4_takeRun_49 (by decide) (fun hc => ?_) (fun hc => ?_)
    · have hf := hf.1 hc
      refine lv_aload_n hx hb dX4_takeRun_75 rfl (lv_at hl 0 rfl) ?_
      refine lv_iconst (v := (4 : Int32)) hx hb dX4_takeRun_76 (by decide) ?_
      refine va_put (D := D) (ci := 4) (v := .int (4 : Int32)) (ty := .int) (C := RX4) (T := TX4) (N := 10) hx hb hts hinX4 tyX4 tyX4_ok nmX4 hown hK hP hD hS 0 rfl rfl 5 (by decide) k38 (fun _ h9 => h9) rfl (by decide +kernel) rfl rfl (Nat.le_of_ble_eq_true rfl) dX4_takeRun_77 (fun H locs hP hD hS => ?_)
      have hP : va_P D vwCl (wd_X4_takeRun cI cZ cB cG q_t q_t_text q_t_game t_error t_errorAt t_length (4 : Int32) t_start r_4 t_value t_laid t_text) H := hP
      have hD : va_D A (wd_X4_takeRun cI cZ cB cG q_t q_t_text q_t_game t_error t_errorAt t_length (4 : Int32) t_start r_4 t_value t_laid t_text) := hD
      exact hret (((4 : Int32), r_4, t_value)) hf hP hD hS dX4_takeRun_80
    · have hf := hf.2 hc
      refine lv_aload_n hx hb dX4_takeRun_52 rfl (lv_at hl 0 rfl) ?_
      refine va_get (D := D) (ci := 4) (v := .int r_4) (C := RX4) (T := TX4) (N := 10) hx hb hts hinX4 hown hK hP 0 rfl rfl 7 (by decide) k41 (fun _ h9 => h9) rfl dX4_takeRun_53 ?_
      refine lv_aload_n hx hb dX4_takeRun_56 rfl (lv_at hl 0 rfl) ?_
      refine va_get (D := D) (ci := 4) (v := .int t_start) (C := RX4) (T := TX4) (N := 10) hx hb hts hinX4 hown hK hP 0 rfl rfl 6 (by decide) k71 (fun _ h9 => h9) rfl dX4_takeRun_57 ?_
      refine lv_isub hx hb dX4_takeRun_60 ?_
      refine lv_iconst (v := (3 : Int32)) hx hb dX4_takeRun_61 (by decide) ?_
      refine lv_icmp_gt (tgt := 75) hx hb dX4_takeRun_62 (by decide) (fun hc => ?_) (fun hc => ?_)
      · have hf := hf.1 hc
        refine lv_aload_n hx hb dX4_takeRun_75 rfl (lv_at hl 0 rfl) ?_
        refine lv_iconst (v := (4 : Int32)) hx hb dX4_takeRun_76 (by decide) ?_
        refine va_put (D := D) (ci := 4) (v := .int (4 : Int32)) (ty := .int) (C := RX4) (T := TX4) (N := 10) hx hb hts hinX4 tyX4 tyX4_ok nmX4 hown hK hP hD hS 0 rfl rfl 5 (by decide) k38 (fun _ h9 => h9) rfl (by decide +kernel) rfl rfl (Nat.le_of_ble_eq_true rfl) dX4_takeRun_77 (fun H locs hP hD hS => ?_)
        have hP : va_P D vwCl (wd_X4_takeRun cI cZ cB cG q_t q_t_text q_t_game t_error t_errorAt t_length (4 : Int32) t_start r_4 t_value t_laid t_text) H := hP
        have hD : va_D A (wd_X4_takeRun cI cZ cB cG q_t q_t_text q_t_game t_error t_errorAt t_length (4 : Int32) t_start r_4 t_value t_laid t_text) := hD
        exact hret (((4 : Int32), r_4, t_value)) hf hP hD hS dX4_takeRun_80
      · have hf := hf.2 hc
        refine lv_aload_n hx hb dX4_takeRun_65 rfl (lv_at hl 0 rfl) ?_
        refine lv_iconst (v := (2 : Int32)) hx hb dX4_takeRun_66 (by decide) ?_
        refine va_put (D := D) (ci := 4) (v := .int (2 : Int32)) (ty := .int) (C := RX4) (T := TX4) (N := 10) hx hb hts hinX4 tyX4 tyX4_ok nmX4 hown hK hP hD hS 0 rfl rfl 5 (by decide) k38 (fun _ h9 => h9) rfl (by decide +kernel) rfl rfl (Nat.le_of_ble_eq_true rfl) dX4_takeRun_67 (fun H locs hP hD hS => ?_)
        have hP : va_P D vwCl (wd_X4_takeRun cI cZ cB cG q_t q_t_text q_t_game t_error t_errorAt t_length (2 : Int32) t_start r_4 t_value t_laid t_text) H := hP
        have hD : va_D A (wd_X4_takeRun cI cZ cB cG q_t q_t_text q_t_game t_error t_errorAt t_length (2 : Int32) t_start r_4 t_value t_laid t_text) := hD
        refine lv_aload_n hx hb dX4_takeRun_70 rfl (lv_at hl 0 rfl) ?_
        have hPc := hP.sub (ws' := (wd_X4_takeValue cI cZ cB cG q_t q_t_text q_t_game t_error t_errorAt t_length (2 : Int32) t_start r_4 t_value t_laid t_text)) [0, 1] rfl
        have hDc := hD.sub (ws' := (wd_X4_takeValue cI cZ cB cG q_t q_t_text q_t_game t_error t_errorAt t_length (2 : Int32) t_start r_4 t_value t_laid t_text)) [0, 1] (by decide +kernel) rfl
        have hFc := va_free (wc := (wd_X4_takeValue cI cZ cB cG q_t q_t_text q_t_game t_error t_errorAt t_length (2 : Int32) t_start r_4 t_value t_laid t_text)) hD hS hA [0, 1] rfl
        refine va_callv (va_runV (As := []) (rest := []) ⟨hx, hb, hml, hown, hts⟩ (c_X4_takeValue l D X cI cZ cB cG H.size q_t q_t_text q_t_game t_error t_errorAt t_length (2 : Int32) t_start r_4 t_value t_laid t_text _ hf) (cwV 0 hts gX4_takeRun_X4_takeValue rfl rfl rfl (by decide +kernel) ⟨Nat.le_of_ble_eq_true rfl, Nat.le_of_ble_eq_true rfl⟩) ⟨g_blind, va_recv hK hPc (ci := 4) (q0 := 0) rfl rfl, fun U hU hW => g_side hU hW hPc hK hDc hE hS hFc⟩ rfl rfl hl.1 rfl (lv_room (Nat.le_of_ble_eq_true rfl)) dX4_takeRun_71 ⟨Nat.zero_le _, Nat.zero_le _⟩) hS (fun q _ h => hFc q h) hFc (fun u t H1 locs ht hvm hw hB hz1 hk1 hS => ?_)
        obtain ⟨t_value_5, rfl⟩ : ∃ z, z = u := ⟨_, rfl⟩
        obtain ⟨hP1, hK1, hD1⟩ := hB
        rw [ht] at hP1
        obtain ⟨hP, hD⟩ := g_back (wc := (wd_X4_takeValue cI cZ cB cG q_t q_t_text q_t_game t_error t_errorAt t_length (2 : Int32) t_start r_4 t_value t_laid t_text)) (w1 := (wd_X4_takeValue cI cZ cB cG q_t q_t_text q_t_game t_error t_errorAt t_length (2 : Int32) t_start r_4 t_value_5 t_laid t_text)) hP hD [0, 1] rfl rfl hk1 hP1
        have hP : va_P D vwCl (wd_X4_takeRun cI cZ cB cG q_t q_t_text q_t_game t_error t_errorAt t_length (2 : Int32) t_start r_4 t_value_5 t_laid t_text) H1 := hP
        have hD : va_D A (wd_X4_takeRun cI cZ cB cG q_t q_t_text q_t_game t_error t_errorAt t_length (2 : Int32) t_start r_4 t_value_5 t_laid t_text) := hD
        have hf := hw
        generalize H1 = H at hP hS ⊢
        exact hret (((2 : Int32), r_4, t_value_5)) hf hP hD hS dX4_takeRun_74
  · have hf := hf.2 hc
    refine lv_aload_n hx hb dX4_takeRun_23 rfl (lv_at hl 0 rfl) ?_
    refine lv_iconst (v := (1 : Int32)) hx hb dX4_takeRun_24 (by decide) ?_
    refine va_put (D := D) (ci := 4) (v := .int (1 : Int32)) (ty := .int) (C := RX4) (T := TX4) (N := 10) hx hb hts hinX4 tyX4 tyX4_ok nmX4 hown hK hP hD hS 0 rfl rfl 5 (by decide) k38 (fun _ h9 => h9) rfl (by decide +kernel) rfl rfl (Nat.le_of_ble_eq_true rfl) dX4_takeRun_25 (fun H locs hP hD hS => ?_)
    have hP : va_P D vwCl (wd_X4_takeRun cI cZ cB cG q_t q_t_text q_t_game t_error t_errorAt t_length (1 : Int32) t_start r_3 t_value t_laid t_text) H := hP
    have hD : va_D A (wd_X4_takeRun cI cZ cB cG q_t q_t_text q_t_game t_error t_errorAt t_length (1 : Int32) t_start r_3 t_value t_laid t_text) := hD
    exact hret (((1 : Int32), r_3, t_value)) hf hP hD hS dX4_takeRun_28
abbrev wd_X4_advance (cI cZ cB cG : ClassId) (q_t : Nat) (q_t_text : Nat) (q_t_game : Nat) (t_error : Int32) (t_errorAt : Int32) (t_length : Int32) (t_kind : Int32) (t_start : Int32) (t_end : Int32) (t_value : Int32) (t_laid : Int32) (t_text : (Nat → Int32)) : va_W := [(q_t, .inr (4, [.ref q_t_text, .ref q_t_game, .int t_error, .int t_errorAt, .int t_length, .int t_kind, .int t_start, .int t_end, .int t_value, .int t_laid])), (q_t_text, .inl (cI, 600, .inl t_text))]
def wp_X4_advance (t_length : Int32) (t_kind : Int32) (t_end : Int32) (t_value : Int32) (t_text : (Nat → Int32)) (post : Int32 → Int32 → Int32 → Int32 → Prop) : Prop := ((t_kind = (1 : Int32) → (wp_X4_blanksEnd t_end t_length t_text (fun r_4 => ((r_4 ≤ t_end → ((r_4 < t_length → (vp_in r_4 600 ∧ ((¬ (t_text r_4.toNatClampNeg) = (59 : Int32) → (wp_X4_takeRun t_length r_4 t_value t_text (fun t_kind_5 t_end_6 t_value_7 => (post (4 : Int32) r_4 t_end_6 t_value_7)))) ∧ ((t_text r_4.toNatClampNeg) = (59 : Int32) → (post (3 : Int32) r_4 ((r_4 + (1 : Int32))) t_value))))) ∧ (¬ (r_4 < t_length) → (post (0 : Int32) r_4 r_4 t_value)))) ∧ (¬ (r_4 ≤ t_end) → ((r_4 < t_length → (vp_in r_4 600 ∧ ((¬ (t_text r_4.toNatClampNeg) = (59 : Int32) → (wp_X4_takeRun t_length r_4 t_value t_text (fun t_kind_8 t_end_9 t_value_10 => (post t_kind_8 r_4 t_end_9 t_value_10)))) ∧ ((t_text r_4.toNatClampNeg) = (59 : Int32) → (post (3 : Int32) r_4 ((r_4 + (1 : Int32))) t_value))))) ∧ (¬ (r_4 < t_length) → (post (0 : Int32) r_4 r_4 t_value)))))))) ∧ (¬ (t_kind = (1 : Int32)) → ((¬ t_kind = (2 : Int32) → (wp_X4_blanksEnd t_end t_length t_text (fun r_11 => ((r_11 ≤ t_end → ((r_11 < t_length → (vp_in r_11 600 ∧ ((¬ (t_text r_11.toNatClampNeg) = (59 : Int32) → (wp_X4_takeRun t_length r_11 t_value t_text (fun t_kind_12 t_end_13 t_value_14 => (post t_kind_12 r_11 t_end_13 t_value_14)))) ∧ ((t_text r_11.toNatClampNeg) = (59 : Int32) → (post (3 : Int32) r_11 ((r_11 + (1 : Int32))) t_value))))) ∧ (¬ (r_11 < t_length) → (post (0 : Int32) r_11 r_11 t_value)))) ∧ (¬ (r_11 ≤ t_end) → ((r_11 < t_length → (vp_in r_11 600 ∧ ((¬ (t_text r_11.toNatClampNeg) = (59 : Int32) → (wp_X4_takeRun t_length r_11 t_value t_text (fun t_kind_15 t_end_16 t_value_17 => (post t_kind_15 r_11 t_end_16 t_value_17)))) ∧ ((t_text r_11.toNatClampNeg) = (59 : Int32) → (post (3 : Int32) r_11 ((r_11 + (1 : Int32))) t_value))))) ∧ (¬ (r_11 < t_length) → (post (0 : Int32) r_11 r_11 t_value)))))))) ∧ (t_kind = (2 : Int32) → (wp_X4_blanksEnd t_end t_length t_text (fun r_18 => ((r_18 ≤ t_end → ((r_18 < t_length → (vp_in r_18 600 ∧ ((¬ (t_text r_18.toNatClampNeg) = (59 : Int32) → (wp_X4_takeRun t_length r_18 t_value t_text (fun t_kind_19 t_end_20 t_value_21 => (post (4 : Int32) r_18 t_end_20 t_value_21)))) ∧ ((t_text r_18.toNatClampNeg) = (59 : Int32) → (post (3 : Int32) r_18 ((r_18 + (1 : Int32))) t_value))))) ∧ (¬ (r_18 < t_length) → (post (0 : Int32) r_18 r_18 t_value)))) ∧ (¬ (r_18 ≤ t_end) → ((r_18 < t_length → (vp_in r_18 600 ∧ ((¬ (t_text r_18.toNatClampNeg) = (59 : Int32) → (wp_X4_takeRun t_length r_18 t_value t_text (fun t_kind_22 t_end_23 t_value_24 => (post t_kind_22 r_18 t_end_23 t_value_24)))) ∧ ((t_text r_18.toNatClampNeg) = (59 : Int32) → (post (3 : Int32) r_18 ((r_18 + (1 : Int32))) t_value))))) ∧ (¬ (r_18 < t_length) → (post (0 : Int32) r_18 r_18 t_value)))))))))))
abbrev rm_X4_advance : Room := { frames := 3, cells := 0, slots := 0, locals := 123 }
theorem in_X4_advance_X4 : ∀ w ∈ u_ws RX4 TX4 10, w ∈ wsX4_advance := by decide +kernel
theorem k_X4_advance_22 : Cond.fieldLink RX4 22 "ParityGame$Reader" "text" "[I" ∈ wsX4_advance := by decide +kernel
theorem k_X4_advance_32 : Cond.fieldLink RX4 32 "ParityGame$Reader" "length" "I" ∈ wsX4_advance := by decide +kernel
theorem k_X4_advance_38 : Cond.fieldLink RX4 38 "ParityGame$Reader" "kind" "I" ∈ wsX4_advance := by decide +kernel
theorem k_X4_advance_41 : Cond.fieldLink RX4 41 "ParityGame$Reader" "end" "I" ∈ wsX4_advance := by decide +kernel
theorem k_X4_advance_71 : Cond.fieldLink RX4 71 "ParityGame$Reader" "start" "I" ∈ wsX4_advance := by decide +kernel
set_option maxHeartbeats 40000000 in
set_option maxRecDepth 100000 in
theorem c_X4_advance (l : Launch) (D : va_G) (X : gX) (cI cZ cB cG : ClassId) (sz : Nat) (q_t : Nat) (q_t_text : Nat) (q_t_game : Nat) (t_error : Int32) (t_errorAt : Int32) (t_length : Int32) (t_kind : Int32) (t_start : Int32) (t_end : Int32) (t_value : Int32) (t_laid : Int32) (t_text : (Nat → Int32)) (post : Int32 → Int32 → Int32 → Int32 → Prop) (hf : wp_X4_advance t_length t_kind t_end t_value t_text post) : Met l yX4_advance wsX4_advance rm_X4_advance (gP D X (gT cI cZ cB cG) sz [.ref q_t] (wd_X4_advance cI cZ cB cG q_t q_t_text q_t_game t_error t_errorAt t_length t_kind t_start t_end t_value t_laid t_text)) (va_Qv (fun (u : Int32 × Int32 × Int32 × Int32) => post u.1 u.2.1 u.2.2.1 u.2.2.2) (fun u t => gB D (gT cI cZ cB cG) (va_A (wd_X4_advance cI cZ cB cG q_t q_t_text q_t_game t_error t_errorAt t_length t_kind t_start t_end t_value t_laid t_text) sz) (wd_X4_advance cI cZ cB cG q_t q_t_text q_t_game t_error t_errorAt t_length u.1 u.2.1 u.2.2.1 u.2.2.2 t_laid t_text) t) (va_A (wd_X4_advance cI cZ cB cG q_t q_t_text q_t_game t_error t_errorAt t_length t_kind t_start t_end t_value t_laid t_text) sz)) 0 0 (va_A (wd_X4_advance cI cZ cB cG q_t q_t_text q_t_game t_error t_errorAt t_length t_kind t_start t_end t_value t_laid t_text) sz) := by
  refine g_ofWv (cc := cX4_advance) (maxL := 3) (by decide +kernel) (Nat.le_of_ble_eq_true rfl) rfl ?_
  intro p e s m args below meth c A Q hx hb hml hown hts hA hK hE H hP hD hS ls hl hret
  have hinX4 := in_X4_advance_X4
  have k22 := hts _ k_X4_advance_22
  have k32 := hts _ k_X4_advance_32
  have k38 := hts _ k_X4_advance_38
  have k41 := hts _ k_X4_advance_41
  have k71 := hts _ k_X4_advance_71
  have hl : lv_has ls 3 [(0, .ref q_t)] := hl
  unfold wp_X4_advance at hf
  refine lv_aload_n hx hb dX4_advance_0 rfl (lv_at hl 0 rfl) ?_
  refine va_get (D := D) (ci := 4) (v := .int t_kind) (C := RX4) (T := TX4) (N := 10) hx hb hts hinX4 hown hK hP 0 rfl rfl 5 (by decide) k38 (fun _ h9 => h9) rfl dX4_advance_1 ?_
  refine lv_iconst (v := (1 : Int32)) hx hb dX4_advance_4 (by decide) ?_
  refine lv_icmp_eq (tgt := 16) hx hb dX4_advance_5 (by decide) (fun hc => ?_) (fun hc => ?_)
  · have hf := hf.1 hc
    refine lv_iconst (v := (1 : Int32)) hx hb dX4_advance_16 (by decide) ?_
    refine lv_goto (tgt := 21) hx hb dX4_advance_17 (by decide) ?_
    refine lv_istore_n (lv' := [(1, .int (1 : Int32)), (0, .ref q_t)]) hx hb dX4_advance_21 rfl hl (by decide) rfl (fun ls hl => ?_)
    refine lv_aload_n hx hb dX4_advance_22 rfl (lv_at hl 1 rfl) ?_
    refine lv_aload_n hx hb dX4_advance_23 rfl (lv_at hl 1 rfl) ?_
    refine lv_aload_n hx hb dX4_advance_24 rfl (lv_at hl 1 rfl) ?_
    refine va_get (D := D) (ci := 4) (v := .int t_end) (C := RX4) (T := TX4) (N := 10) hx hb hts hinX4 hown hK hP 0 rfl rfl 7 (by decide) k41 (fun _ h9 => h9) rfl dX4_advance_25 ?_
    have hPc := hP.sub (ws' := (wd_X4_blanksEnd cI cZ cB cG q_t q_t_text q_t_game t_error t_errorAt t_length t_kind t_start t_end t_value t_laid t_text)) [0, 1] rfl
    have hDc := hD.sub (ws' := (wd_X4_blanksEnd cI cZ cB cG q_t q_t_text q_t_game t_error t_errorAt t_length t_kind t_start t_end t_value t_laid t_text)) [0, 1] (by decide +kernel) rfl
    have hFc := va_free (wc := (wd_X4_blanksEnd cI cZ cB cG q_t q_t_text q_t_game t_error t_errorAt t_length t_kind t_start t_end t_value t_laid t_text)) hD hS hA [0, 1] rfl
    refine va_calli (va_runV (As := [.int t_end]) (rest := [.ref q_t]) ⟨hx, hb, hml, hown, hts⟩ (c_X4_blanksEnd l D X cI cZ cB cG H.size q_t q_t_text q_t_game t_end t_error t_errorAt t_length t_kind t_start t_end t_value t_laid t_text _ hf) (cwV 1 hts gX4_advance_X4_blanksEnd rfl rfl rfl (by decide +kernel) ⟨Nat.le_of_ble_eq_true rfl, Nat.le_of_ble_eq_true rfl⟩) ⟨g_blind, va_recv hK hPc (ci := 4) (q0 := 0) rfl rfl, fun U hU hW => g_side hU hW hPc hK hDc hE hS hFc⟩ rfl rfl hl.1 rfl (lv_room (Nat.le_of_ble_eq_true rfl)) dX4_advance_28 ⟨Nat.zero_le _, Nat.zero_le _⟩) hS (fun q _ h => hFc q h) hFc (fun r_4 u t H1 locs ht hvm hw hB hz1 hk1 hS => ?_)
    obtain ⟨hP1, hK1, hD1⟩ := hB
    rw [ht] at hP1
    obtain ⟨hP, hD⟩ := g_back (wc := (wd_X4_blanksEnd cI cZ cB cG q_t q_t_text q_t_game t_error t_errorAt t_length t_kind t_start t_end t_value t_laid t_text)) (w1 := (wd_X4_blanksEnd cI cZ cB cG q_t q_t_text q_t_game t_error t_errorAt t_length t_kind t_start t_end t_value t_laid t_text)) hP hD [0, 1] rfl rfl hk1 hP1
    have hP : va_P D vwCl (wd_X4_advance cI cZ cB cG q_t q_t_text q_t_game t_error t_errorAt t_length t_kind t_start t_end t_value t_laid t_text) H1 := hP
    have hD : va_D A (wd_X4_advance cI cZ cB cG q_t q_t_text q_t_game t_error t_errorAt t_length t_kind t_start t_end t_value t_laid t_text) := hD
    have hf := hw
    generalize H1 = H at hP hS ⊢
    refine va_put (D := D) (ci := 4) (v := .int r_4) (ty := .int) (C := RX4) (T := TX4) (N := 10) hx hb hts hinX4 tyX4 tyX4_ok nmX4 hown hK hP hD hS 0 rfl rfl 6 (by decide) k71 (fun _ h9 => h9) rfl (by decide +kernel) rfl rfl (Nat.le_of_ble_eq_true rfl) dX4_advance_31 (fun H locs hP hD hS => ?_)
    have hP : va_P D vwCl (wd_X4_advance cI cZ cB cG q_t q_t_text q_t_game t_error t_errorAt t_length t_kind r_4 t_end t_value t_laid t_text) H := hP
    have hD : va_D A (wd_X4_advance cI cZ cB cG q_t q_t_text q_t_game t_error t_errorAt t_length t_kind r_4 t_end t_value t_laid t_text) := hD
    refine lv_aload_n hx hb dX4_advance_34 rfl (lv_at hl 1 rfl) ?_
    refine va_get (D := D) (ci := 4) (v := .int r_4) (C := RX4) (T := TX4) (N := 10) hx hb hts hinX4 hown hK hP 0 rfl rfl 6 (by decide) k71 (fun _ h9 => h9) rfl dX4_advance_35 ?_
    refine lv_aload_n hx hb dX4_advance_38 rfl (lv_at hl 1 rfl) ?_
    refine va_get (D := D) (ci := 4) (v := .int t_end) (C := RX4) (T := TX4) (N := 10) hx hb hts hinX4 hown hK hP 0 rfl rfl 7 (by decide) k41 (fun _ h9 => h9) rfl dX4_advance_39 ?_
    refine lv_icmp_le (tgt := 49) hx hb dX4_advance_42 (by decide) (fun hc => ?_) (fun hc => ?_)
    · have hf := hf.1 hc
      refine lv_iconst (v := (0 : Int32)) hx hb dX4_advance_49 (by decide) ?_
      refine lv_istore_n (lv' := [(2, .int (0 : Int32)), (1, .int (1 : Int32)), (0, .ref q_t)]) hx hb dX4_advance_50 rfl hl (by decide) rfl (fun ls hl => ?_)
      refine lv_aload_n hx hb dX4_advance_51 rfl (lv_at hl 2 rfl) ?_
      refine va_get (D := D) (ci := 4) (v := .int r_4) (C := RX4) (T := TX4) (N := 10) hx hb hts hinX4 hown hK hP 0 rfl rfl 6 (by decide) k71 (fun _ h9 => h9) rfl dX4_advance_52 ?_
      refine lv_aload_n hx hb dX4_advance_55 rfl (lv_at hl 2 rfl) ?_
      refine va_get (D := D) (ci := 4) (v := .int t_length) (C := RX4) (T := TX4) (N := 10) hx hb hts hinX4 hown hK hP 0 rfl rfl 4 (by decide) k32 (fun _ h9 => h9) rfl dX4_advance_56 ?_
      refine lv_icmp_lt (tgt := 78) hx hb dX4_advance_59 (by decide) (fun hc => ?_) (fun hc => ?_)
      · have hf := hf.1 hc
        refine lv_aload_n hx hb dX4_advance_78 rfl (lv_at hl 2 rfl) ?_
        refine va_get (D := D) (ci := 4) (v := .ref q_t_text) (C := RX4) (T := TX4) (N := 10) hx hb hts hinX4 hown hK hP 0 rfl rfl 0 (by decide) k22 (fun _ h9 => h9) rfl dX4_advance_79 ?_
        refine lv_aload_n hx hb dX4_advance_82 rfl (lv_at hl 2 rfl) ?_
        refine va_get (D := D) (ci := 4) (v := .int r_4) (C := RX4) (T := TX4) (N := 10) hx hb hts hinX4 hown hK hP 0 rfl rfl 6 (by decide) k71 (fun _ h9 => h9) rfl dX4_advance_83 ?_
        refine va_iald hx hb hK hP 1 0 rfl rfl (n := 600) hf.1 dX4_advance_86 ?_
        have hf := hf.2
        refine lv_bipush (v := (59 : Int32)) hx hb dX4_advance_87 (by decide) ?_
        refine lv_icmp_ne (tgt := 110) hx hb dX4_advance_89 (by decide) (fun hc => ?_) (fun hc => ?_)
        · have hf := hf.1 hc
          refine lv_aload_n hx hb dX4_advance_110 rfl (lv_at hl 2 rfl) ?_
          have hPc := hP.sub (ws' := (wd_X4_takeRun cI cZ cB cG q_t q_t_text q_t_game t_error t_errorAt t_length t_kind r_4 t_end t_value t_laid t_text)) [0, 1] rfl
          have hDc := hD.sub (ws' := (wd_X4_takeRun cI cZ cB cG q_t q_t_text q_t_game t_error t_errorAt t_length t_kind r_4 t_end t_value t_laid t_text)) [0, 1] (by decide +kernel) rfl
          have hFc := va_free (wc := (wd_X4_takeRun cI cZ cB cG q_t q_t_text q_t_game t_error t_errorAt t_length t_kind r_4 t_end t_value t_laid t_text)) hD hS hA [0, 1] rfl
          refine va_callv (va_runV (As := []) (rest := []) ⟨hx, hb, hml, hown, hts⟩ (c_X4_takeRun l D X cI cZ cB cG H.size q_t q_t_text q_t_game t_error t_errorAt t_length t_kind r_4 t_end t_value t_laid t_text _ hf) (cwV 0 hts gX4_advance_X4_takeRun rfl rfl rfl (by decide +kernel) ⟨Nat.le_of_ble_eq_true rfl, Nat.le_of_ble_eq_true rfl⟩) ⟨g_blind, va_recv hK hPc (ci := 4) (q0 := 0) rfl rfl, fun U hU hW => g_side hU hW hPc hK hDc hE hS hFc⟩ rfl rfl hl.1 rfl (lv_room (Nat.le_of_ble_eq_true rfl)) dX4_advance_111 ⟨Nat.zero_le _, Nat.zero_le _⟩) hS (fun q _ h => hFc q h) hFc (fun u t H1 locs ht hvm hw hB hz1 hk1 hS => ?_)
          obtain ⟨t_kind_5, t_end_6, t_value_7⟩ := u
          obtain ⟨hP1, hK1, hD1⟩ := hB
          rw [ht] at hP1
          obtain ⟨hP, hD⟩ := g_back (wc := (wd_X4_takeRun cI cZ cB cG q_t q_t_text q_t_game t_error t_errorAt t_length t_kind r_4 t_end t_value t_laid t_text)) (w1 := (wd_X4_takeRun cI cZ cB cG q_t q_t_text q_t_game t_error t_errorAt t_length t_kind_5 r_4 t_end_6 t_value_7 t_laid t_text)) hP hD [0, 1] rfl rfl hk1 hP1
          have hP : va_P D vwCl (wd_X4_advance cI cZ cB cG q_t q_t_text q_t_game t_error t_errorAt t_length t_kind_5 r_4 t_end_6 t_value_7 t_laid t_text) H1 := hP
          have hD : va_D A (wd_X4_advance cI cZ cB cG q_t q_t_text q_t_game t_error t_errorAt t_length t_kind_5 r_4 t_end_6 t_value_7 t_laid t_text) := hD
          have hf := hw
          generalize H1 = H at hP hS ⊢
          refine lv_iload_n hx hb dX4_advance_114 rfl (lv_at hl 1 rfl) ?_
          refine lv_if_eq (tgt := 127) hx hb dX4_advance_115 (by decide) (fun hc => absurd hc (by decide)) (fun _ => ?_)
          refine lv_iload_n hx hb dX4_advance_118 rfl (lv_at hl 0 rfl) ?_
          refine lv_if_ne (tgt := 127) hx hb dX4_advance_119 (by decide) (fun hc => absurd (by decide) hc) (fun _ => ?_)
          refine lv_aload_n hx hb dX4_advance_122 rfl (lv_at hl 2 rfl) ?_
          refine lv_iconst (v := (4 : Int32)) hx hb dX4_advance_123 (by decide) ?_
          refine va_put (D := D) (ci := 4) (v := .int (4 : Int32)) (ty := .int) (C := RX4) (T := TX4) (N := 10) hx hb hts hinX4 tyX4 tyX4_ok nmX4 hown hK hP hD hS 0 rfl rfl 5 (by decide) k38 (fun _ h9 => h9) rfl (by decide +kernel) rfl rfl (Nat.le_of_ble_eq_true rfl) dX4_advance_124 (fun H locs hP hD hS => ?_)
          have hP : va_P D vwCl (wd_X4_advance cI cZ cB cG q_t q_t_text q_t_game t_error t_errorAt t_length (4 : Int32) r_4 t_end_6 t_value_7 t_laid t_text) H := hP
          have hD : va_D A (wd_X4_advance cI cZ cB cG q_t q_t_text q_t_game t_error t_errorAt t_length (4 : Int32) r_4 t_end_6 t_value_7 t_laid t_text) := hD
          exact hret (((4 : Int32), r_4, t_end_6, t_value_7)) hf hP hD hS dX4_advance_127
        · have hf := hf.2 hc
          refine lv_aload_n hx hb dX4_advance_92 rfl (lv_at hl 2 rfl) ?_
          refine lv_iconst (v := (3 : Int32)) hx hb dX4_advance_93 (by decide) ?_
          refine va_put (D := D) (ci := 4) (v := .int (3 : Int32)) (ty := .int) (C := RX4) (T := TX4) (N := 10) hx hb hts hinX4 tyX4 tyX4_ok nmX4 hown hK hP hD hS 0 rfl rfl 5 (by decide) k38 (fun _ h9 => h9) rfl (by decide +kernel) rfl rfl (Nat.le_of_ble_eq_true rfl) dX4_advance_94 (fun H locs hP hD hS => ?_)
          have hP : va_P D vwCl (wd_X4_advance cI cZ cB cG q_t q_t_text q_t_game t_error t_errorAt t_length (3 : Int32) r_4 t_end t_value t_laid t_text) H := hP
          have hD : va_D A (wd_X4_advance cI cZ cB cG q_t q_t_text q_t_game t_error t_errorAt t_length (3 : Int32) r_4 t_end t_value t_laid t_text) := hD
          refine lv_aload_n hx hb dX4_advance_97 rfl (lv_at hl 2 rfl) ?_
          refine lv_aload_n hx hb dX4_advance_98 rfl (lv_at hl 2 rfl) ?_
          refine va_get (D := D) (ci := 4) (v := .int r_4) (C := RX4) (T := TX4) (N := 10) hx hb hts hinX4 hown hK hP 0 rfl rfl 6 (by decide) k71 (fun _ h9 => h9) rfl dX4_advance_99 ?_
          refine lv_iconst (v := (1 : Int32)) hx hb dX4_advance_102 (by decide) ?_
          refine lv_iadd hx hb dX4_advance_103 ?_
          refine va_put (D := D) (ci := 4) (v := .int ((r_4 + (1 : Int32)))) (ty := .int) (C := RX4) (T := TX4) (N := 10) hx hb hts hinX4 tyX4 tyX4_ok nmX4 hown hK hP hD hS 0 rfl rfl 7 (by decide) k41 (fun _ h9 => h9) rfl (by decide +kernel) rfl rfl (Nat.le_of_ble_eq_true rfl) dX4_advance_104 (fun H locs hP hD hS => ?_)
          have hP : va_P D vwCl (wd_X4_advance cI cZ cB cG q_t q_t_text q_t_game t_error t_errorAt t_length (3 : Int32) r_4 ((r_4 + (1 : Int32))) t_value t_laid t_text) H := hP
          have hD : va_D A (wd_X4_advance cI cZ cB cG q_t q_t_text q_t_game t_error t_errorAt t_length (3 : Int32) r_4 ((r_4 + (1 : Int32))) t_value t_laid t_text) := hD
          refine lv_goto (tgt := 127) hx hb dX4_advance_107 (by decide) ?_
          exact hret (((3 : Int32), r_4, (r_4 + (1 : Int32)), t_value)) hf hP hD hS dX4_advance_127
      · have hf := hf.2 hc
        refine lv_aload_n hx hb dX4_advance_62 rfl (lv_at hl 2 rfl) ?_
        refine lv_iconst (v := (0 : Int32)) hx hb dX4_advance_63 (by decide) ?_
        refine va_put (D := D) (ci := 4) (v := .int (0 : Int32)) (ty := .int) (C := RX4) (T := TX4) (N := 10) hx hb hts hinX4 tyX4 tyX4_ok nmX4 hown hK hP hD hS 0 rfl rfl 5 (by decide) k38 (fun _ h9 => h9) rfl (by decide +kernel) rfl rfl (Nat.le_of_ble_eq_true rfl) dX4_advance_64 (fun H locs hP hD hS => ?_)
        have hP : va_P D vwCl (wd_X4_advance cI cZ cB cG q_t q_t_text q_t_game t_error t_errorAt t_length (0 : Int32) r_4 t_end t_value t_laid t_text) H := hP
        have hD : va_D A (wd_X4_advance cI cZ cB cG q_t q_t_text q_t_game t_error t_errorAt t_length (0 : Int32) r_4 t_end t_value t_laid t_text) := hD
        refine lv_aload_n hx hb dX4_advance_67 rfl (lv_at hl 2 rfl) ?_
        refine lv_aload_n hx hb dX4_advance_68 rfl (lv_at hl 2 rfl) ?_
        refine va_get (D := D) (ci := 4) (v := .int r_4) (C := RX4) (T := TX4) (N := 10) hx hb hts hinX4 hown hK hP 0 rfl rfl 6 (by decide) k71 (fun _ h9 => h9) rfl dX4_advance_69 ?_
        refine va_put (D := D) (ci := 4) (v := .int r_4) (ty := .int) (C := RX4) (T := TX4) (N := 10) hx hb hts hinX4 tyX4 tyX4_ok nmX4 hown hK hP hD hS 0 rfl rfl 7 (by decide) k41 (fun _ h9 => h9) rfl (by decide +kernel) rfl rfl (Nat.le_of_ble_eq_true rfl) dX4_advance_72 (fun H locs hP hD hS => ?_)
        have hP : va_P D vwCl (wd_X4_advance cI cZ cB cG q_t q_t_text q_t_game t_error t_errorAt t_length (0 : Int32) r_4 r_4 t_value t_laid t_text) H := hP
        have hD : va_D A (wd_X4_advance cI cZ cB cG q_t q_t_text q_t_game t_error t_errorAt t_length (0 : Int32) r_4 r_4 t_value t_laid t_text) := hD
        refine lv_goto (tgt := 127) hx hb dX4_advance_75 (by decide) ?_
        exact hret (((0 : Int32), r_4, r_4, t_value)) hf hP hD hS dX4_advance_127
    · have hf := hf.2 hc
      refine lv_iconst (v := (1 : Int32)) hx hb dX4_advance_45 (by decide) ?_
      refine lv_goto (tgt := 50) hx hb dX4_advance_46 (by decide) ?_
      refine lv_istore_n (lv' := [(2, .int (1 : Int32)), (1, .int (1 : Int32)), (0, .ref q_t)]) hx hb dX4_advance_50 rfl hl (by decide) rfl (fun ls hl => ?_)
      refine lv_aload_n hx hb dX4_advance_51 rfl (lv_at hl 2 rfl) ?_
      refine va_get (D := D) (ci := 4) (v := .int r_4) (C := RX4) (T := TX4) (N := 10) hx hb hts hinX4 hown hK hP 0 rfl rfl 6 (by decide) k71 (fun _ h9 => h9) rfl dX4_advance_52 ?_
      refine lv_aload_n hx hb dX4_advance_55 rfl (lv_at hl 2 rfl) ?_
      refine va_get (D := D) (ci := 4) (v := .int t_length) (C := RX4) (T := TX4) (N := 10) hx hb hts hinX4 hown hK hP 0 rfl rfl 4 (by decide) k32 (fun _ h9 => h9) rfl dX4_advance_56 ?_
      refine lv_icmp_lt (tgt := 78) hx hb dX4_advance_59 (by decide) (fun hc => ?_) (fun hc => ?_)
      · have hf := hf.1 hc
        refine lv_aload_n hx hb dX4_advance_78 rfl (lv_at hl 2 rfl) ?_
        refine va_get (D := D) (ci := 4) (v := .ref q_t_text) (C := RX4) (T := TX4) (N := 10) hx hb hts hinX4 hown hK hP 0 rfl rfl 0 (by decide) k22 (fun _ h9 => h9) rfl dX4_advance_79 ?_
        refine lv_aload_n hx hb dX4_advance_82 rfl (lv_at hl 2 rfl) ?_
        refine va_get (D := D) (ci := 4) (v := .int r_4) (C := RX4) (T := TX4) (N := 10) hx hb hts hinX4 hown hK hP 0 rfl rfl 6 (by decide) k71 (fun _ h9 => h9) rfl dX4_advance_83 ?_
        refine va_iald hx hb hK hP 1 0 rfl rfl (n := 600) hf.1 dX4_advance_86 ?_
        have hf := hf.2
        refine lv_bipush (v := (59 : Int32)) hx hb dX4_advance_87 (by decide) ?_
        refine lv_icmp_ne (tgt := 110) hx hb dX4_advance_89 (by decide) (fun hc => ?_) (fun hc => ?_)
        · have hf := hf.1 hc
          refine lv_aload_n hx hb dX4_advance_110 rfl (lv_at hl 2 rfl) ?_
          have hPc := hP.sub (ws' := (wd_X4_takeRun cI cZ cB cG q_t q_t_text q_t_game t_error t_errorAt t_length t_kind r_4 t_end t_value t_laid t_text)) [0, 1] rfl
          have hDc := hD.sub (ws' := (wd_X4_takeRun cI cZ cB cG q_t q_t_text q_t_game t_error t_errorAt t_length t_kind r_4 t_end t_value t_laid t_text)) [0, 1] (by decide +kernel) rfl
          have hFc := va_free (wc := (wd_X4_takeRun cI cZ cB cG q_t q_t_text q_t_game t_error t_errorAt t_length t_kind r_4 t_end t_value t_laid t_text)) hD hS hA [0, 1] rfl
          refine va_callv (va_runV (As := []) (rest := []) ⟨hx, hb, hml, hown, hts⟩ (c_X4_takeRun l D X cI cZ cB cG H.size q_t q_t_text q_t_game t_error t_errorAt t_length t_kind r_4 t_end t_value t_laid t_text _ hf) (cwV 0 hts gX4_advance_X4_takeRun rfl rfl rfl (by decide +kernel) ⟨Nat.le_of_ble_eq_true rfl, Nat.le_of_ble_eq_true rfl⟩) ⟨g_blind, va_recv hK hPc (ci := 4) (q0 := 0) rfl rfl, fun U hU hW => g_side hU hW hPc hK hDc hE hS hFc⟩ rfl rfl hl.1 rfl (lv_room (Nat.le_of_ble_eq_true rfl)) dX4_advance_111 ⟨Nat.zero_le _, Nat.zero_le _⟩) hS (fun q _ h => hFc q h) hFc (fun u t H1 locs ht hvm hw hB hz1 hk1 hS => ?_)
          obtain ⟨t_kind_8, t_end_9, t_value_10⟩ := u
          obtain ⟨hP1, hK1, hD1⟩ := hB
          rw [ht] at hP1
          obtain ⟨hP, hD⟩ := g_back (wc := (wd_X4_takeRun cI cZ cB cG q_t q_t_text q_t_game t_error t_errorAt t_length t_kind r_4 t_end t_value t_laid t_text)) (w1 := (wd_X4_takeRun cI cZ cB cG q_t q_t_text q_t_game t_error t_errorAt t_length t_kind_8 r_4 t_end_9 t_value_10 t_laid t_text)) hP hD [0, 1] rfl rfl hk1 hP1
          have hP : va_P D vwCl (wd_X4_advance cI cZ cB cG q_t q_t_text q_t_game t_error t_errorAt t_length t_kind_8 r_4 t_end_9 t_value_10 t_laid t_text) H1 := hP
          have hD : va_D A (wd_X4_advance cI cZ cB cG q_t q_t_text q_t_game t_error t_errorAt t_length t_kind_8 r_4 t_end_9 t_value_10 t_laid t_text) := hD
          have hf := hw
          generalize H1 = H at hP hS ⊢
          refine lv_iload_n hx hb dX4_advance_114 rfl (lv_at hl 1 rfl) ?_
          refine lv_if_eq (tgt := 127) hx hb dX4_advance_115 (by decide) (fun hc => absurd hc (by decide)) (fun _ => ?_)
          refine lv_iload_n hx hb dX4_advance_118 rfl (lv_at hl 0 rfl) ?_
          refine lv_if_ne (tgt := 127) hx hb dX4_advance_119 (by decide) (fun _ => ?_) (fun hc => absurd hc (by decide))
          exact hret (t_kind_8, r_4, t_end_9, t_value_10) hf hP hD hS dX4_advance_127
        · have hf := hf.2 hc
          refine lv_aload_n hx hb dX4_advance_92 rfl (lv_at hl 2 rfl) ?_
          refine lv_iconst (v := (3 : Int32)) hx hb dX4_advance_93 (by decide) ?_
          refine va_put (D := D) (ci := 4) (v := .int (3 : Int32)) (ty := .int) (C := RX4) (T := TX4) (N := 10) hx hb hts hinX4 tyX4 tyX4_ok nmX4 hown hK hP hD hS 0 rfl rfl 5 (by decide) k38 (fun _ h9 => h9) rfl (by decide +kernel) rfl rfl (Nat.le_of_ble_eq_true rfl) dX4_advance_94 (fun H locs hP hD hS => ?_)
          have hP : va_P D vwCl (wd_X4_advance cI cZ cB cG q_t q_t_text q_t_game t_error t_errorAt t_length (3 : Int32) r_4 t_end t_value t_laid t_text) H := hP
          have hD : va_D A (wd_X4_advance cI cZ cB cG q_t q_t_text q_t_game t_error t_errorAt t_length (3 : Int32) r_4 t_end t_value t_laid t_text) := hD
          refine lv_aload_n hx hb dX4_advance_97 rfl (lv_at hl 2 rfl) ?_
          refine lv_aload_n hx hb dX4_advance_98 rfl (lv_at hl 2 rfl) ?_
          refine va_get (D := D) (ci := 4) (v := .int r_4) (C := RX4) (T := TX4) (N := 10) hx hb hts hinX4 hown hK hP 0 rfl rfl 6 (by decide) k71 (fun _ h9 => h9) rfl dX4_advance_99 ?_
          refine lv_iconst (v := (1 : Int32)) hx hb dX4_advance_102 (by decide) ?_
          refine lv_iadd hx hb dX4_advance_103 ?_
          refine va_put (D := D) (ci := 4) (v := .int ((r_4 + (1 : Int32)))) (ty := .int) (C := RX4) (T := TX4) (N := 10) hx hb hts hinX4 tyX4 tyX4_ok nmX4 hown hK hP hD hS 0 rfl rfl 7 (by decide) k41 (fun _ h9 => h9) rfl (by decide +kernel) rfl rfl (Nat.le_of_ble_eq_true rfl) dX4_advance_104 (fun H locs hP hD hS => ?_)
          have hP : va_P D vwCl (wd_X4_advance cI cZ cB cG q_t q_t_text q_t_game t_error t_errorAt t_length (3 : Int32) r_4 ((r_4 + (1 : Int32))) t_value t_laid t_text) H := hP
          have hD : va_D A (wd_X4_advance cI cZ cB cG q_t q_t_text q_t_game t_error t_errorAt t_length (3 : Int32) r_4 ((r_4 + (1 : Int32))) t_value t_laid t_text) := hD
          refine lv_goto (tgt := 127) hx hb dX4_advance_107 (by decide) ?_
          exact hret (((3 : Int32), r_4, (r_4 + (1 : Int32)), t_value)) hf hP hD hS dX4_advance_127
      · have hf := hf.2 hc
        refine lv_aload_n hx hb dX4_advance_62 rfl (lv_at hl 2 rfl) ?_
        refine lv_iconst (v := (0 : Int32)) hx hb dX4_advance_63 (by decide) ?_
        refine va_put (D := D) (ci := 4) (v := .int (0 : Int32)) (ty := .int) (C := RX4) (T := TX4) (N := 10) hx hb hts hinX4 tyX4 tyX4_ok nmX4 hown hK hP hD hS 0 rfl rfl 5 (by decide) k38 (fun _ h9 => h9) rfl (by decide +kernel) rfl rfl (Nat.le_of_ble_eq_true rfl) dX4_advance_64 (fun H locs hP hD hS => ?_)
        have hP : va_P D vwCl (wd_X4_advance cI cZ cB cG q_t q_t_text q_t_game t_error t_errorAt t_length (0 : Int32) r_4 t_end t_value t_laid t_text) H := hP
        have hD : va_D A (wd_X4_advance cI cZ cB cG q_t q_t_text q_t_game t_error t_errorAt t_length (0 : Int32) r_4 t_end t_value t_laid t_text) := hD
        refine lv_aload_n hx hb dX4_advance_67 rfl (lv_at hl 2 rfl) ?_
        refine lv_aload_n hx hb dX4_advance_68 rfl (lv_at hl 2 rfl) ?_
        refine va_get (D := D) (ci := 4) (v := .int r_4) (C := RX4) (T := TX4) (N := 10) hx hb hts hinX4 hown hK hP 0 rfl rfl 6 (by decide) k71 (fun _ h9 => h9) rfl dX4_advance_69 ?_
        refine va_put (D := D) (ci := 4) (v := .int r_4) (ty := .int) (C := RX4) (T := TX4) (N := 10) hx hb hts hinX4 tyX4 tyX4_ok nmX4 hown hK hP hD hS 0 rfl rfl 7 (by decide) k41 (fun _ h9 => h9) rfl (by decide +kernel) rfl rfl (Nat.le_of_ble_eq_true rfl) dX4_advance_72 (fun H locs hP hD hS => ?_)
        have hP : va_P D vwCl (wd_X4_advance cI cZ cB cG q_t q_t_text q_t_game t_error t_errorAt t_length (0 : Int32) r_4 r_4 t_value t_laid t_text) H := hP
        have hD : va_D A (wd_X4_advance cI cZ cB cG q_t q_t_text q_t_game t_error t_errorAt t_length (0 : Int32) r_4 r_4 t_value t_laid t_text) := hD
        refine lv_goto (tgt := 127) hx hb dX4_advance_75 (by decide) ?_
        exact hret (((0 : Int32), r_4, r_4, t_value)) hf hP hD hS dX4_advance_127
  · have hf := hf.2 hc
    refine lv_aload_n hx hb dX4_advance_8 rfl (lv_at hl 0 rfl) ?_
    refine va_get (D := D) (ci := 4) (v := .int t_kind) (C := RX4) (T := TX4) (N := 10) hx hb hts hinX4 hown hK hP 0 rfl rfl 5 (by decide) k38 (fun _ h9 => h9) rfl dX4_advance_9 ?_
    refine lv_iconst (v := (2 : Int32)) hx hb dX4_advance_12 (by decide) ?_
    refine lv_icmp_ne (tgt := 20) hx hb dX4_advance_13 (by decide) (fun hc => ?_) (fun hc => ?_)
    · have hf := hf.1 hc
      refine lv_iconst (v := (0 : Int32)) hx hb dX4_advance_20 (by decide) ?_
      refine lv_istore_n (lv' := [(1, .int (0 : Int32)), (0, .ref q_t)]) hx hb dX4_advance_21 rfl hl (by decide) rfl (fun ls hl => ?_)
      refine lv_aload_n hx hb dX4_advance_22 rfl (lv_at hl 1 rfl) ?_
      refine lv_aload_n hx hb dX4_advance_23 rfl (lv_at hl 1 rfl) ?_
      refine lv_aload_n hx hb dX4_advance_24 rfl (lv_at hl 1 rfl) ?_
      refine va_get (D := D) (ci := 4) (v := .int t_end) (C := RX4) (T := TX4) (N := 10) hx hb hts hinX4 hown hK hP 0 rfl rfl 7 (by decide) k41 (fun _ h9 => h9) rfl dX4_advance_25 ?_
      have hPc := hP.sub (ws' := (wd_X4_blanksEnd cI cZ cB cG q_t q_t_text q_t_game t_error t_errorAt t_length t_kind t_start t_end t_value t_laid t_text)) [0, 1] rfl
      have hDc := hD.sub (ws' := (wd_X4_blanksEnd cI cZ cB cG q_t q_t_text q_t_game t_error t_errorAt t_length t_kind t_start t_end t_value t_laid t_text)) [0, 1] (by decide +kernel) rfl
      have hFc := va_free (wc := (wd_X4_blanksEnd cI cZ cB cG q_t q_t_text q_t_game t_error t_errorAt t_length t_kind t_start t_end t_value t_laid t_text)) hD hS hA [0, 1] rfl
      refine va_calli (va_runV (As := [.int t_end]) (rest := [.ref q_t]) ⟨hx, hb, hml, hown, hts⟩ (c_X4_blanksEnd l D X cI cZ cB cG H.size q_t q_t_text q_t_game t_end t_error t_errorAt t_length t_kind t_start t_end t_value t_laid t_text _ hf) (cwV 1 hts gX4_advance_X4_blanksEnd rfl rfl rfl (by decide +kernel) ⟨Nat.le_of_ble_eq_true rfl, Nat.le_of_ble_eq_true rfl⟩) ⟨g_blind, va_recv hK hPc (ci := 4) (q0 := 0) rfl rfl, fun U hU hW => g_side hU hW hPc hK hDc hE hS hFc⟩ rfl rfl hl.1 rfl (lv_room (Nat.le_of_ble_eq_true rfl)) dX4_advance_28 ⟨Nat.zero_le _, Nat.zero_le _⟩) hS (fun q _ h => hFc q h) hFc (fun r_11 u t H1 locs ht hvm hw hB hz1 hk1 hS => ?_)
      obtain ⟨hP1, hK1, hD1⟩ := hB
      rw [ht] at hP1
      obtain ⟨hP, hD⟩ := g_back (wc := (wd_X4_blanksEnd cI cZ cB cG q_t q_t_text q_t_game t_error t_errorAt t_length t_kind t_start t_end t_value t_laid t_text)) (w1 := (wd_X4_blanksEnd cI cZ cB cG q_t q_t_text q_t_game t_error t_errorAt t_length t_kind t_start t_end t_value t_laid t_text)) hP hD [0, 1] rfl rfl hk1 hP1
      have hP : va_P D vwCl (wd_X4_advance cI cZ cB cG q_t q_t_text q_t_game t_error t_errorAt t_length t_kind t_start t_end t_value t_laid t_text) H1 := hP
      have hD : va_D A (wd_X4_advance cI cZ cB cG q_t q_t_text q_t_game t_error t_errorAt t_length t_kind t_start t_end t_value t_laid t_text) := hD
      have hf := hw
      generalize H1 = H at hP hS ⊢
      refine va_put (D := D) (ci := 4) (v := .int r_11) (ty := .int) (C := RX4) (T := TX4) (N := 10) hx hb hts hinX4 tyX4 tyX4_ok nmX4 hown hK hP hD hS 0 rfl rfl 6 (by decide) k71 (fun _ h9 => h9) rfl (by decide +kernel) rfl rfl (Nat.le_of_ble_eq_true rfl) dX4_advance_31 (fun H locs hP hD hS => ?_)
      have hP : va_P D vwCl (wd_X4_advance cI cZ cB cG q_t q_t_text q_t_game t_error t_errorAt t_length t_kind r_11 t_end t_value t_laid t_text) H := hP
      have hD : va_D A (wd_X4_advance cI cZ cB cG q_t q_t_text q_t_game t_error t_errorAt t_length t_kind r_11 t_end t_value t_laid t_text) := hD
      refine lv_aload_n hx hb dX4_advance_34 rfl (lv_at hl 1 rfl) ?_
      refine va_get (D := D) (ci := 4) (v := .int r_11) (C := RX4) (T := TX4) (N := 10) hx hb hts hinX4 hown hK hP 0 rfl rfl 6 (by decide) k71 (fun _ h9 => h9) rfl dX4_advance_35 ?_
      refine lv_aload_n hx hb dX4_advance_38 rfl (lv_at hl 1 rfl) ?_
      refine va_get (D := D) (ci := 4) (v := .int t_end) (C := RX4) (T := TX4) (N := 10) hx hb hts hinX4 hown hK hP 0 rfl rfl 7 (by decide) k41 (fun _ h9 => h9) rfl dX4_advance_39 ?_
      refine lv_icmp_le (tgt := 49) hx hb dX4_advance_42 (by decide) (fun hc => ?_) (fun hc => ?_)
      · have hf := hf.1 hc
        refine lv_iconst (v := (0 : Int32)) hx hb dX4_advance_49 (by decide) ?_
        refine lv_istore_n (lv' := [(2, .int (0 : Int32)), (1, .int (0 : Int32)), (0, .ref q_t)]) hx hb dX4_advance_50 rfl hl (by decide) rfl (fun ls hl => ?_)
        refine lv_aload_n hx hb dX4_advance_51 rfl (lv_at hl 2 rfl) ?_
        refine va_get (D := D) (ci := 4) (v := .int r_11) (C := RX4) (T := TX4) (N := 10) hx hb hts hinX4 hown hK hP 0 rfl rfl 6 (by decide) k71 (fun _ h9 => h9) rfl dX4_advance_52 ?_
        refine lv_aload_n hx hb dX4_advance_55 rfl (lv_at hl 2 rfl) ?_
        refine va_get (D := D) (ci := 4) (v := .int t_length) (C := RX4) (T := TX4) (N := 10) hx hb hts hinX4 hown hK hP 0 rfl rfl 4 (by decide) k32 (fun _ h9 => h9) rfl dX4_advance_56 ?_
        refine lv_icmp_lt (tgt := 78) hx hb dX4_advance_59 (by decide) (fun hc => ?_) (fun hc => ?_)
        · have hf := hf.1 hc
          refine lv_aload_n hx hb dX4_advance_78 rfl (lv_at hl 2 rfl) ?_
          refine va_get (D := D) (ci := 4) (v := .ref q_t_text) (C := RX4) (T := TX4) (N := 10) hx hb hts hinX4 hown hK hP 0 rfl rfl 0 (by decide) k22 (fun _ h9 => h9) rfl dX4_advance_79 ?_
          refine lv_aload_n hx hb dX4_advance_82 rfl (lv_at hl 2 rfl) ?_
          refine va_get (D := D) (ci := 4) (v := .int r_11) (C := RX4) (T := TX4) (N := 10) hx hb hts hinX4 hown hK hP 0 rfl rfl 6 (by decide) k71 (fun _ h9 => h9) rfl dX4_advance_83 ?_
          refine va_iald hx hb hK hP 1 0 rfl rfl (n := 600) hf.1 dX4_advance_86 ?_
          have hf := hf.2
          refine lv_bipush (v := (59 : Int32)) hx hb dX4_advance_87 (by decide) ?_
          refine lv_icmp_ne (tgt := 110) hx hb dX4_advance_89 (by decide) (fun hc => ?_) (fun hc => ?_)
          · have hf := hf.1 hc
            refine lv_aload_n hx hb dX4_advance_110 rfl (lv_at hl 2 rfl) ?_
            have hPc := hP.sub (ws' := (wd_X4_takeRun cI cZ cB cG q_t q_t_text q_t_game t_error t_errorAt t_length t_kind r_11 t_end t_value t_laid t_text)) [0, 1] rfl
            have hDc := hD.sub (ws' := (wd_X4_takeRun cI cZ cB cG q_t q_t_text q_t_game t_error t_errorAt t_length t_kind r_11 t_end t_value t_laid t_text)) [0, 1] (by decide +kernel) rfl
            have hFc := va_free (wc := (wd_X4_takeRun cI cZ cB cG q_t q_t_text q_t_game t_error t_errorAt t_length t_kind r_11 t_end t_value t_laid t_text)) hD hS hA [0, 1] rfl
            refine va_callv (va_runV (As := []) (rest := []) ⟨hx, hb, hml, hown, hts⟩ (c_X4_takeRun l D X cI cZ cB cG H.size q_t q_t_text q_t_game t_error t_errorAt t_length t_kind r_11 t_end t_value t_laid t_text _ hf) (cwV 0 hts gX4_advance_X4_takeRun rfl rfl rfl (by decide +kernel) ⟨Nat.le_of_ble_eq_true rfl, Nat.le_of_ble_eq_true rfl⟩) ⟨g_blind, va_recv hK hPc (ci := 4) (q0 := 0) rfl rfl, fun U hU hW => g_side hU hW hPc hK hDc hE hS hFc⟩ rfl rfl hl.1 rfl (lv_room (Nat.le_of_ble_eq_true rfl)) dX4_advance_111 ⟨Nat.zero_le _, Nat.zero_le _⟩) hS (fun q _ h => hFc q h) hFc (fun u t H1 locs ht hvm hw hB hz1 hk1 hS => ?_)
            obtain ⟨t_kind_12, t_end_13, t_value_14⟩ := u
            obtain ⟨hP1, hK1, hD1⟩ := hB
            rw [ht] at hP1
            obtain ⟨hP, hD⟩ := g_back (wc := (wd_X4_takeRun cI cZ cB cG q_t q_t_text q_t_game t_error t_errorAt t_length t_kind r_11 t_end t_value t_laid t_text)) (w1 := (wd_X4_takeRun cI cZ cB cG q_t q_t_text q_t_game t_error t_errorAt t_length t_kind_12 r_11 t_end_13 t_value_14 t_laid t_text)) hP hD [0, 1] rfl rfl hk1 hP1
            have hP : va_P D vwCl (wd_X4_advance cI cZ cB cG q_t q_t_text q_t_game t_error t_errorAt t_length t_kind_12 r_11 t_end_13 t_value_14 t_laid t_text) H1 := hP
            have hD : va_D A (wd_X4_advance cI cZ cB cG q_t q_t_text q_t_game t_error t_errorAt t_length t_kind_12 r_11 t_end_13 t_value_14 t_laid t_text) := hD
            have hf := hw
            generalize H1 = H at hP hS ⊢
            refine lv_iload_n hx hb dX4_advance_114 rfl (lv_at hl 1 rfl) ?_
            refine lv_if_eq (tgt := 127) hx hb dX4_advance_115 (by decide) (fun _ => ?_) (fun hc => absurd (by decide) hc)
            exact hret (t_kind_12, r_11, t_end_13, t_value_14) hf hP hD hS dX4_advance_127
          · have hf := hf.2 hc
            refine lv_aload_n hx hb dX4_advance_92 rfl (lv_at hl 2 rfl) ?_
            refine lv_iconst (v := (3 : Int32)) hx hb dX4_advance_93 (by decide) ?_
            refine va_put (D := D) (ci := 4) (v := .int (3 : Int32)) (ty := .int) (C := RX4) (T := TX4) (N := 10) hx hb hts hinX4 tyX4 tyX4_ok nmX4 hown hK hP hD hS 0 rfl rfl 5 (by decide) k38 (fun _ h9 => h9) rfl (by decide +kernel) rfl rfl (Nat.le_of_ble_eq_true rfl) dX4_advance_94 (fun H locs hP hD hS => ?_)
            have hP : va_P D vwCl (wd_X4_advance cI cZ cB cG q_t q_t_text q_t_game t_error t_errorAt t_length (3 : Int32) r_11 t_end t_value t_laid t_text) H := hP
            have hD : va_D A (wd_X4_advance cI cZ cB cG q_t q_t_text q_t_game t_error t_errorAt t_length (3 : Int32) r_11 t_end t_value t_laid t_text) := hD
            refine lv_aload_n hx hb dX4_advance_97 rfl (lv_at hl 2 rfl) ?_
            refine lv_aload_n hx hb dX4_advance_98 rfl (lv_at hl 2 rfl) ?_
            refine va_get (D := D) (ci := 4) (v := .int r_11) (C := RX4) (T := TX4) (N := 10) hx hb hts hinX4 hown hK hP 0 rfl rfl 6 (by decide) k71 (fun _ h9 => h9) rfl dX4_advance_99 ?_
            refine lv_iconst (v := (1 : Int32)) hx hb dX4_advance_102 (by decide) ?_
            refine lv_iadd hx hb dX4_advance_103 ?_
            refine va_put (D := D) (ci := 4) (v := .int ((r_11 + (1 : Int32)))) (ty := .int) (C := RX4) (T := TX4) (N := 10) hx hb hts hinX4 tyX4 tyX4_ok nmX4 hown hK hP hD hS 0 rfl rfl 7 (by decide) k41 (fun _ h9 => h9) rfl (by decide +kernel) rfl rfl (Nat.le_of_ble_eq_true rfl) dX4_advance_104 (fun H locs hP hD hS => ?_)
            have hP : va_P D vwCl (wd_X4_advance cI cZ cB cG q_t q_t_text q_t_game t_error t_errorAt t_length (3 : Int32) r_11 ((r_11 + (1 : Int32))) t_value t_laid t_text) H := hP
            have hD : va_D A (wd_X4_advance cI cZ cB cG q_t q_t_text q_t_game t_error t_errorAt t_length (3 : Int32) r_11 ((r_11 + (1 : Int32))) t_value t_laid t_text) := hD
            refine lv_goto (tgt := 127) hx hb dX4_advance_107 (by decide) ?_
            exact hret (((3 : Int32), r_11, (r_11 + (1 : Int32)), t_value)) hf hP hD hS dX4_advance_127
        · have hf := hf.2 hc
          refine lv_aload_n hx hb dX4_advance_62 rfl (lv_at hl 2 rfl) ?_
          refine lv_iconst (v := (0 : Int32)) hx hb dX4_advance_63 (by decide) ?_
          refine va_put (D := D) (ci := 4) (v := .int (0 : Int32)) (ty := .int) (C := RX4) (T := TX4) (N := 10) hx hb hts hinX4 tyX4 tyX4_ok nmX4 hown hK hP hD hS 0 rfl rfl 5 (by decide) k38 (fun _ h9 => h9) rfl (by decide +kernel) rfl rfl (Nat.le_of_ble_eq_true rfl) dX4_advance_64 (fun H locs hP hD hS => ?_)
          have hP : va_P D vwCl (wd_X4_advance cI cZ cB cG q_t q_t_text q_t_game t_error t_errorAt t_length (0 : Int32) r_11 t_end t_value t_laid t_text) H := hP
          have hD : va_D A (wd_X4_advance cI cZ cB cG q_t q_t_text q_t_game t_error t_errorAt t_length (0 : Int32) r_11 t_end t_value t_laid t_text) := hD
          refine lv_aload_n hx hb dX4_advance_67 rfl (lv_at hl 2 rfl) ?_
          refine lv_aload_n hx hb dX4_advance_68 rfl (lv_at hl 2 rfl) ?_
          refine va_get (D := D) (ci := 4) (v := .int r_11) (C := RX4) (T := TX4) (N := 10) hx hb hts hinX4 hown hK hP 0 rfl rfl 6 (by decide) k71 (fun _ h9 => h9) rfl dX4_advance_69 ?_
          refine va_put (D := D) (ci := 4) (v := .int r_11) (ty := .int) (C := RX4) (T := TX4) (N := 10) hx hb hts hinX4 tyX4 tyX4_ok nmX4 hown hK hP hD hS 0 rfl rfl 7 (by decide) k41 (fun _ h9 => h9) rfl (by decide +kernel) rfl rfl (Nat.le_of_ble_eq_true rfl) dX4_advance_72 (fun H locs hP hD hS => ?_)
          have hP : va_P D vwCl (wd_X4_advance cI cZ cB cG q_t q_t_text q_t_game t_error t_errorAt t_length (0 : Int32) r_11 r_11 t_value t_laid t_text) H := hP
          have hD : va_D A (wd_X4_advance cI cZ cB cG q_t q_t_text q_t_game t_error t_errorAt t_length (0 : Int32) r_11 r_11 t_value t_laid t_text) := hD
          refine lv_goto (tgt := 127) hx hb dX4_advance_75 (by decide) ?_
          exact hret (((0 : Int32), r_11, r_11, t_value)) hf hP hD hS dX4_advance_127
      · have hf := hf.2 hc
        refine lv_iconst (v := (1 : Int32)) hx hb dX4_advance_45 (by decide) ?_
        refine lv_goto (tgt := 50) hx hb dX4_advance_46 (by decide) ?_
        refine lv_istore_n (lv' := [(2, .int (1 : Int32)), (1, .int (0 : Int32)), (0, .ref q_t)]) hx hb dX4_advance_50 rfl hl (by decide) rfl (fun ls hl => ?_)
        refine lv_aload_n hx hb dX4_advance_51 rfl (lv_at hl 2 rfl) ?_
        refine va_get (D := D) (ci := 4) (v := .int r_11) (C := RX4) (T := TX4) (N := 10) hx hb hts hinX4 hown hK hP 0 rfl rfl 6 (by decide) k71 (fun _ h9 => h9) rfl dX4_advance_52 ?_
        refine lv_aload_n hx hb dX4_advance_55 rfl (lv_at hl 2 rfl) ?_
        refine va_get (D := D) (ci := 4) (v := .int t_length) (C := RX4) (T := TX4) (N := 10) hx hb hts hinX4 hown hK hP 0 rfl rfl 4 (by decide) k32 (fun _ h9 => h9) rfl dX4_advance_56 ?_
        refine lv_icmp_lt (tgt := 78) hx hb dX4_advance_59 (by decide) (fun hc => ?_) (fun hc => ?_)
        · have hf := hf.1 hc
          refine lv_aload_n hx hb dX4_advance_78 rfl (lv_at hl 2 rfl) ?_
          refine va_get (D := D) (ci := 4) (v := .ref q_t_text) (C := RX4) (T := TX4) (N := 10) hx hb hts hinX4 hown hK hP 0 rfl rfl 0 (by decide) k22 (fun _ h9 => h9) rfl dX4_advance_79 ?_
          refine lv_aload_n hx hb dX4_advance_82 rfl (lv_at hl 2 rfl) ?_
          refine va_get (D := D) (ci := 4) (v := .int r_11) (C := RX4) (T := TX4) (N := 10) hx hb hts hinX4 hown hK hP 0 rfl rfl 6 (by decide) k71 (fun _ h9 => h9) rfl dX4_advance_83 ?_
          refine va_iald hx hb hK hP 1 0 rfl rfl (n := 600) hf.1 dX4_advance_86 ?_
          have hf := hf.2
          refine lv_bipush (v := (59 : Int32)) hx hb dX4_advance_87 (by decide) ?_
          refine lv_icmp_ne (tgt := 110) hx hb dX4_advance_89 (by decide) (fun hc => ?_) (fun hc => ?_)
          · have hf := hf.1 hc
            refine lv_aload_n hx hb dX4_advance_110 rfl (lv_at hl 2 rfl) ?_
            have hPc := hP.sub (ws' := (wd_X4_takeRun cI cZ cB cG q_t q_t_text q_t_game t_error t_errorAt t_length t_kind r_11 t_end t_value t_laid t_text)) [0, 1] rfl
            have hDc := hD.sub (ws' := (wd_X4_takeRun cI cZ cB cG q_t q_t_text q_t_game t_error t_errorAt t_length t_kind r_11 t_end t_value t_laid t_text)) [0, 1] (by decide +kernel) rfl
            have hFc := va_free (wc := (wd_X4_takeRun cI cZ cB cG q_t q_t_text q_t_game t_error t_errorAt t_length t_kind r_11 t_end t_value t_laid t_text)) hD hS hA [0, 1] rfl
            refine va_callv (va_runV (As := []) (rest := []) ⟨hx, hb, hml, hown, hts⟩ (c_X4_takeRun l D X cI cZ cB cG H.size q_t q_t_text q_t_game t_error t_errorAt t_length t_kind r_11 t_end t_value t_laid t_text _ hf) (cwV 0 hts gX4_advance_X4_takeRun rfl rfl rfl (by decide +kernel) ⟨Nat.le_of_ble_eq_true rfl, Nat.le_of_ble_eq_true rfl⟩) ⟨g_blind, va_recv hK hPc (ci := 4) (q0 := 0) rfl rfl, fun U hU hW => g_side hU hW hPc hK hDc hE hS hFc⟩ rfl rfl hl.1 rfl (lv_room (Nat.le_of_ble_eq_true rfl)) dX4_advance_111 ⟨Nat.zero_le _, Nat.zero_le _⟩) hS (fun q _ h => hFc q h) hFc (fun u t H1 locs ht hvm hw hB hz1 hk1 hS => ?_)
            obtain ⟨t_kind_15, t_end_16, t_value_17⟩ := u
            obtain ⟨hP1, hK1, hD1⟩ := hB
            rw [ht] at hP1
            obtain ⟨hP, hD⟩ := g_back (wc := (wd_X4_takeRun cI cZ cB cG q_t q_t_text q_t_game t_error t_errorAt t_length t_kind r_11 t_end t_value t_laid t_text)) (w1 := (wd_X4_takeRun cI cZ cB cG q_t q_t_text q_t_game t_error t_errorAt t_length t_kind_15 r_11 t_end_16 t_value_17 t_laid t_text)) hP hD [0, 1] rfl rfl hk1 hP1
            have hP : va_P D vwCl (wd_X4_advance cI cZ cB cG q_t q_t_text q_t_game t_error t_errorAt t_length t_kind_15 r_11 t_end_16 t_value_17 t_laid t_text) H1 := hP
            have hD : va_D A (wd_X4_advance cI cZ cB cG q_t q_t_text q_t_game t_error t_errorAt t_length t_kind_15 r_11 t_end_16 t_value_17 t_laid t_text) := hD
            have hf := hw
            generalize H1 = H at hP hS ⊢
            refine lv_iload_n hx hb dX4_advance_114 rfl (lv_at hl 1 rfl) ?_
            refine lv_if_eq (tgt := 127) hx hb dX4_advance_115 (by decide) (fun _ => ?_) (fun hc => absurd (by decide) hc)
            exact hret (t_kind_15, r_11, t_end_16, t_value_17) hf hP hD hS dX4_advance_127
          · have hf := hf.2 hc
            refine lv_aload_n hx hb dX4_advance_92 rfl (lv_at hl 2 rfl) ?_
            refine lv_iconst (v := (3 : Int32)) hx hb dX4_advance_93 (by decide) ?_
            refine va_put (D := D) (ci := 4) (v := .int (3 : Int32)) (ty := .int) (C := RX4) (T := TX4) (N := 10) hx hb hts hinX4 tyX4 tyX4_ok nmX4 hown hK hP hD hS 0 rfl rfl 5 (by decide) k38 (fun _ h9 => h9) rfl (by decide +kernel) rfl rfl (Nat.le_of_ble_eq_true rfl) dX4_advance_94 (fun H locs hP hD hS => ?_)
            have hP : va_P D vwCl (wd_X4_advance cI cZ cB cG q_t q_t_text q_t_game t_error t_errorAt t_length (3 : Int32) r_11 t_end t_value t_laid t_text) H := hP
            have hD : va_D A (wd_X4_advance cI cZ cB cG q_t q_t_text q_t_game t_error t_errorAt t_length (3 : Int32) r_11 t_end t_value t_laid t_text) := hD
            refine lv_aload_n hx hb dX4_advance_97 rfl (lv_at hl 2 rfl) ?_
            refine lv_aload_n hx hb dX4_advance_98 rfl (lv_at hl 2 rfl) ?_
            refine va_get (D := D) (ci := 4) (v := .int r_11) (C := RX4) (T := TX4) (N := 10) hx hb hts hinX4 hown hK hP 0 rfl rfl 6 (by decide) k71 (fun _ h9 => h9) rfl dX4_advance_99 ?_
            refine lv_iconst (v := (1 : Int32)) hx hb dX4_advance_102 (by decide) ?_
            refine lv_iadd hx hb dX4_advance_103 ?_
            refine va_put (D := D) (ci := 4) (v := .int ((r_11 + (1 : Int32)))) (ty := .int) (C := RX4) (T := TX4) (N := 10) hx hb hts hinX4 tyX4 tyX4_ok nmX4 hown hK hP hD hS 0 rfl rfl 7 (by decide) k41 (fun _ h9 => h9) rfl (by decide +kernel) rfl rfl (Nat.le_of_ble_eq_true rfl) dX4_advance_104 (fun H locs hP hD hS => ?_)
            have hP : va_P D vwCl (wd_X4_advance cI cZ cB cG q_t q_t_text q_t_game t_error t_errorAt t_length (3 : Int32) r_11 ((r_11 + (1 : Int32))) t_value t_laid t_text) H := hP
            have hD : va_D A (wd_X4_advance cI cZ cB cG q_t q_t_text q_t_game t_error t_errorAt t_length (3 : Int32) r_11 ((r_11 + (1 : Int32))) t_value t_laid t_text) := hD
            refine lv_goto (tgt := 127) hx hb dX4_advance_107 (by decide) ?_
            exact hret (((3 : Int32), r_11, (r_11 + (1 : Int32)), t_value)) hf hP hD hS dX4_advance_127
        · have hf := hf.2 hc
          refine lv_aload_n hx hb dX4_advance_62 rfl (lv_at hl 2 rfl) ?_
          refine lv_iconst (v := (0 : Int32)) hx hb dX4_advance_63 (by decide) ?_
          refine va_put (D := D) (ci := 4) (v := .int (0 : Int32)) (ty := .int) (C := RX4) (T := TX4) (N := 10) hx hb hts hinX4 tyX4 tyX4_ok nmX4 hown hK hP hD hS 0 rfl rfl 5 (by decide) k38 (fun _ h9 => h9) rfl (by decide +kernel) rfl rfl (Nat.le_of_ble_eq_true rfl) dX4_advance_64 (fun H locs hP hD hS => ?_)
          have hP : va_P D vwCl (wd_X4_advance cI cZ cB cG q_t q_t_text q_t_game t_error t_errorAt t_length (0 : Int32) r_11 t_end t_value t_laid t_text) H := hP
          have hD : va_D A (wd_X4_advance cI cZ cB cG q_t q_t_text q_t_game t_error t_errorAt t_length (0 : Int32) r_11 t_end t_value t_laid t_text) := hD
          refine lv_aload_n hx hb dX4_advance_67 rfl (lv_at hl 2 rfl) ?_
          refine lv_aload_n hx hb dX4_advance_68 rfl (lv_at hl 2 rfl) ?_
          refine va_get (D := D) (ci := 4) (v := .int r_11) (C := RX4) (T := TX4) (N := 10) hx hb hts hinX4 hown hK hP 0 rfl rfl 6 (by decide) k71 (fun _ h9 => h9) rfl dX4_advance_69 ?_
          refine va_put (D := D) (ci := 4) (v := .int r_11) (ty := .int) (C := RX4) (T := TX4) (N := 10) hx hb hts hinX4 tyX4 tyX4_ok nmX4 hown hK hP hD hS 0 rfl rfl 7 (by decide) k41 (fun _ h9 => h9) rfl (by decide +kernel) rfl rfl (Nat.le_of_ble_eq_true rfl) dX4_advance_72 (fun H locs hP hD hS => ?_)
          have hP : va_P D vwCl (wd_X4_advance cI cZ cB cG q_t q_t_text q_t_game t_error t_errorAt t_length (0 : Int32) r_11 r_11 t_value t_laid t_text) H := hP
          have hD : va_D A (wd_X4_advance cI cZ cB cG q_t q_t_text q_t_game t_error t_errorAt t_length (0 : Int32) r_11 r_11 t_value t_laid t_text) := hD
          refine lv_goto (tgt := 127) hx hb dX4_advance_75 (by decide) ?_
          exact hret (((0 : Int32), r_11, r_11, t_value)) hf hP hD hS dX4_advance_127
    · have hf := hf.2 hc
      refine lv_iconst (v := (1 : Int32)) hx hb dX4_advance_16 (by decide) ?_
      refine lv_goto (tgt := 21) hx hb dX4_advance_17 (by decide) ?_
      refine lv_istore_n (lv' := [(1, .int (1 : Int32)), (0, .ref q_t)]) hx hb dX4_advance_21 rfl hl (by decide) rfl (fun ls hl => ?_)
      refine lv_aload_n hx hb dX4_advance_22 rfl (lv_at hl 1 rfl) ?_
      refine lv_aload_n hx hb dX4_advance_23 rfl (lv_at hl 1 rfl) ?_
      refine lv_aload_n hx hb dX4_advance_24 rfl (lv_at hl 1 rfl) ?_
      refine va_get (D := D) (ci := 4) (v := .int t_end) (C := RX4) (T := TX4) (N := 10) hx hb hts hinX4 hown hK hP 0 rfl rfl 7 (by decide) k41 (fun _ h9 => h9) rfl dX4_advance_25 ?_
      have hPc := hP.sub (ws' := (wd_X4_blanksEnd cI cZ cB cG q_t q_t_text q_t_game t_error t_errorAt t_length t_kind t_start t_end t_value t_laid t_text)) [0, 1] rfl
      have hDc := hD.sub (ws' := (wd_X4_blanksEnd cI cZ cB cG q_t q_t_text q_t_game t_error t_errorAt t_length t_kind t_start t_end t_value t_laid t_text)) [0, 1] (by decide +kernel) rfl
      have hFc := va_free (wc := (wd_X4_blanksEnd cI cZ cB cG q_t q_t_text q_t_game t_error t_errorAt t_length t_kind t_start t_end t_value t_laid t_text)) hD hS hA [0, 1] rfl
      refine va_calli (va_runV (As := [.int t_end]) (rest := [.ref q_t]) ⟨hx, hb, hml, hown, hts⟩ (c_X4_blanksEnd l D X cI cZ cB cG H.size q_t q_t_text q_t_game t_end t_error t_errorAt t_length t_kind t_start t_end t_value t_laid t_text _ hf) (cwV 1 hts gX4_advance_X4_blanksEnd rfl rfl rfl (by decide +kernel) ⟨Nat.le_of_ble_eq_true rfl, Nat.le_of_ble_eq_true rfl⟩) ⟨g_blind, va_recv hK hPc (ci := 4) (q0 := 0) rfl rfl, fun U hU hW => g_side hU hW hPc hK hDc hE hS hFc⟩ rfl rfl hl.1 rfl (lv_room (Nat.le_of_ble_eq_true rfl)) dX4_advance_28 ⟨Nat.zero_le _, Nat.zero_le _⟩) hS (fun q _ h => hFc q h) hFc (fun r_18 u t H1 locs ht hvm hw hB hz1 hk1 hS => ?_)
      obtain ⟨hP1, hK1, hD1⟩ := hB
      rw [ht] at hP1
      obtain ⟨hP, hD⟩ := g_back (wc := (wd_X4_blanksEnd cI cZ cB cG q_t q_t_text q_t_game t_error t_errorAt t_length t_kind t_start t_end t_value t_laid t_text)) (w1 := (wd_X4_blanksEnd cI cZ cB cG q_t q_t_text q_t_game t_error t_errorAt t_length t_kind t_start t_end t_value t_laid t_text)) hP hD [0, 1] rfl rfl hk1 hP1
      have hP : va_P D vwCl (wd_X4_advance cI cZ cB cG q_t q_t_text q_t_game t_error t_errorAt t_length t_kind t_start t_end t_value t_laid t_text) H1 := hP
      have hD : va_D A (wd_X4_advance cI cZ cB cG q_t q_t_text q_t_game t_error t_errorAt t_length t_kind t_start t_end t_value t_laid t_text) := hD
      have hf := hw
      generalize H1 = H at hP hS ⊢
      refine va_put (D := D) (ci := 4) (v := .int r_18) (ty := .int) (C := RX4) (T := TX4) (N := 10) hx hb hts hinX4 tyX4 tyX4_ok nmX4 hown hK hP hD hS 0 rfl rfl 6 (by decide) k71 (fun _ h9 => h9) rfl (by decide +kernel) rfl rfl (Nat.le_of_ble_eq_true rfl) dX4_advance_31 (fun H locs hP hD hS => ?_)
      have hP : va_P D vwCl (wd_X4_advance cI cZ cB cG q_t q_t_text q_t_game t_error t_errorAt t_length t_kind r_18 t_end t_value t_laid t_text) H := hP
      have hD : va_D A (wd_X4_advance cI cZ cB cG q_t q_t_text q_t_game t_error t_errorAt t_length t_kind r_18 t_end t_value t_laid t_text) := hD
      refine lv_aload_n hx hb dX4_advance_34 rfl (lv_at hl 1 rfl) ?_
      refine va_get (D := D) (ci := 4) (v := .int r_18) (C := RX4) (T := TX4) (N := 10) hx hb hts hinX4 hown hK hP 0 rfl rfl 6 (by decide) k71 (fun _ h9 => h9) rfl dX4_advance_35 ?_
      refine lv_aload_n hx hb dX4_advance_38 rfl (lv_at hl 1 rfl) ?_
      refine va_get (D := D) (ci := 4) (v := .int t_end) (C := RX4) (T := TX4) (N := 10) hx hb hts hinX4 hown hK hP 0 rfl rfl 7 (by decide) k41 (fun _ h9 => h9) rfl dX4_advance_39 ?_
      refine lv_icmp_le (tgt := 49) hx hb dX4_advance_42 (by decide) (fun hc => ?_) (fun hc => ?_)
      · have hf := hf.1 hc
        refine lv_iconst (v := (0 : Int32)) hx hb dX4_advance_49 (by decide) ?_
        refine lv_istore_n (lv' := [(2, .int (0 : Int32)), (1, .int (1 : Int32)), (0, .ref q_t)]) hx hb dX4_advance_50 rfl hl (by decide) rfl (fun ls hl => ?_)
        refine lv_aload_n hx hb dX4_advance_51 rfl (lv_at hl 2 rfl) ?_
        refine va_get (D := D) (ci := 4) (v := .int r_18) (C := RX4) (T := TX4) (N := 10) hx hb hts hinX4 hown hK hP 0 rfl rfl 6 (by decide) k71 (fun _ h9 => h9) rfl dX4_advance_52 ?_
        refine lv_aload_n hx hb dX4_advance_55 rfl (lv_at hl 2 rfl) ?_
        refine va_get (D := D) (ci := 4) (v := .int t_length) (C := RX4) (T := TX4) (N := 10) hx hb hts hinX4 hown hK hP 0 rfl rfl 4 (by decide) k32 (fun _ h9 => h9) rfl dX4_advance_56 ?_
        refine lv_icmp_lt (tgt := 78) hx hb dX4_advance_59 (by decide) (fun hc => ?_) (fun hc => ?_)
        · have hf := hf.1 hc
          refine lv_aload_n hx hb dX4_advance_78 rfl (lv_at hl 2 rfl) ?_
          refine va_get (D := D) (ci := 4) (v := .ref q_t_text) (C := RX4) (T := TX4) (N := 10) hx hb hts hinX4 hown hK hP 0 rfl rfl 0 (by decide) k22 (fun _ h9 => h9) rfl dX4_advance_79 ?_
          refine lv_aload_n hx hb dX4_advance_82 rfl (lv_at hl 2 rfl) ?_
          refine va_get (D := D) (ci := 4) (v := .int r_18) (C := RX4) (T := TX4) (N := 10) hx hb hts hinX4 hown hK hP 0 rfl rfl 6 (by decide) k71 (fun _ h9 => h9) rfl dX4_advance_83 ?_
          refine va_iald hx hb hK hP 1 0 rfl rfl (n := 600) hf.1 dX4_advance_86 ?_
          have hf := hf.2
          refine lv_bipush (v := (59 : Int32)) hx hb dX4_advance_87 (by decide) ?_
          refine lv_icmp_ne (tgt := 110) hx hb dX4_advance_89 (by decide) (fun hc => ?_) (fun hc => ?_)
          · have hf := hf.1 hc
            refine lv_aload_n hx hb dX4_advance_110 rfl (lv_at hl 2 rfl) ?_
            have hPc := hP.sub (ws' := (wd_X4_takeRun cI cZ cB cG q_t q_t_text q_t_game t_error t_errorAt t_length t_kind r_18 t_end t_value t_laid t_text)) [0, 1] rfl
            have hDc := hD.sub (ws' := (wd_X4_takeRun cI cZ cB cG q_t q_t_text q_t_game t_error t_errorAt t_length t_kind r_18 t_end t_value t_laid t_text)) [0, 1] (by decide +kernel) rfl
            have hFc := va_free (wc := (wd_X4_takeRun cI cZ cB cG q_t q_t_text q_t_game t_error t_errorAt t_length t_kind r_18 t_end t_value t_laid t_text)) hD hS hA [0, 1] rfl
            refine va_callv (va_runV (As := []) (rest := []) ⟨hx, hb, hml, hown, hts⟩ (c_X4_takeRun l D X cI cZ cB cG H.size q_t q_t_text q_t_game t_error t_errorAt t_length t_kind r_18 t_end t_value t_laid t_text _ hf) (cwV 0 hts gX4_advance_X4_takeRun rfl rfl rfl (by decide +kernel) ⟨Nat.le_of_ble_eq_true rfl, Nat.le_of_ble_eq_true rfl⟩) ⟨g_blind, va_recv hK hPc (ci := 4) (q0 := 0) rfl rfl, fun U hU hW => g_side hU hW hPc hK hDc hE hS hFc⟩ rfl rfl hl.1 rfl (lv_room (Nat.le_of_ble_eq_true rfl)) dX4_advance_111 ⟨Nat.zero_le _, Nat.zero_le _⟩) hS (fun q _ h => hFc q h) hFc (fun u t H1 locs ht hvm hw hB hz1 hk1 hS => ?_)
            obtain ⟨t_kind_19, t_end_20, t_value_21⟩ := u
            obtain ⟨hP1, hK1, hD1⟩ := hB
            rw [ht] at hP1
            obtain ⟨hP, hD⟩ := g_back (wc := (wd_X4_takeRun cI cZ cB cG q_t q_t_text q_t_game t_error t_errorAt t_length t_kind r_18 t_end t_value t_laid t_text)) (w1 := (wd_X4_takeRun cI cZ cB cG q_t q_t_text q_t_game t_error t_errorAt t_length t_kind_19 r_18 t_end_20 t_value_21 t_laid t_text)) hP hD [0, 1] rfl rfl hk1 hP1
            have hP : va_P D vwCl (wd_X4_advance cI cZ cB cG q_t q_t_text q_t_game t_error t_errorAt t_length t_kind_19 r_18 t_end_20 t_value_21 t_laid t_text) H1 := hP
            have hD : va_D A (wd_X4_advance cI cZ cB cG q_t q_t_text q_t_game t_error t_errorAt t_length t_kind_19 r_18 t_end_20 t_value_21 t_laid t_text) := hD
            have hf := hw
            generalize H1 = H at hP hS ⊢
            refine lv_iload_n hx hb dX4_advance_114 rfl (lv_at hl 1 rfl) ?_
            refine lv_if_eq (tgt := 127) hx hb dX4_advance_115 (by decide) (fun hc => absurd hc (by decide)) (fun _ => ?_)
            refine lv_iload_n hx hb dX4_advance_118 rfl (lv_at hl 0 rfl) ?_
            refine lv_if_ne (tgt := 127) hx hb dX4_advance_119 (by decide) (fun hc => absurd (by decide) hc) (fun _ => ?_)
            refine lv_aload_n hx hb dX4_advance_122 rfl (lv_at hl 2 rfl) ?_
            refine lv_iconst (v := (4 : Int32)) hx hb dX4_advance_123 (by decide) ?_
            refine va_put (D := D) (ci := 4) (v := .int (4 : Int32)) (ty := .int) (C := RX4) (T := TX4) (N := 10) hx hb hts hinX4 tyX4 tyX4_ok nmX4 hown hK hP hD hS 0 rfl rfl 5 (by decide) k38 (fun _ h9 => h9) rfl (by decide +kernel) rfl rfl (Nat.le_of_ble_eq_true rfl) dX4_advance_124 (fun H locs hP hD hS => ?_)
            have hP : va_P D vwCl (wd_X4_advance cI cZ cB cG q_t q_t_text q_t_game t_error t_errorAt t_length (4 : Int32) r_18 t_end_20 t_value_21 t_laid t_text) H := hP
            have hD : va_D A (wd_X4_advance cI cZ cB cG q_t q_t_text q_t_game t_error t_errorAt t_length (4 : Int32) r_18 t_end_20 t_value_21 t_laid t_text) := hD
            exact hret (((4 : Int32), r_18, t_end_20, t_value_21)) hf hP hD hS dX4_advance_127
          · have hf := hf.2 hc
            refine lv_aload_n hx hb dX4_advance_92 rfl (lv_at hl 2 rfl) ?_
            refine lv_iconst (v := (3 : Int32)) hx hb dX4_advance_93 (by decide) ?_
            refine va_put (D := D) (ci := 4) (v := .int (3 : Int32)) (ty := .int) (C := RX4) (T := TX4) (N := 10) hx hb hts hinX4 tyX4 tyX4_ok nmX4 hown hK hP hD hS 0 rfl rfl 5 (by decide) k38 (fun _ h9 => h9) rfl (by decide +kernel) rfl rfl (Nat.le_of_ble_eq_true rfl) dX4_advance_94 (fun H locs hP hD hS => ?_)
            have hP : va_P D vwCl (wd_X4_advance cI cZ cB cG q_t q_t_text q_t_game t_error t_errorAt t_length (3 : Int32) r_18 t_end t_value t_laid t_text) H := hP
            have hD : va_D A (wd_X4_advance cI cZ cB cG q_t q_t_text q_t_game t_error t_errorAt t_length (3 : Int32) r_18 t_end t_value t_laid t_text) := hD
            refine lv_aload_n hx hb dX4_advance_97 rfl (lv_at hl 2 rfl) ?_
            refine lv_aload_n hx hb dX4_advance_98 rfl (lv_at hl 2 rfl) ?_
            refine va_get (D := D) (ci := 4) (v := .int r_18) (C := RX4) (T := TX4) (N := 10) hx hb hts hinX4 hown hK hP 0 rfl rfl 6 (by decide) k71 (fun _ h9 => h9) rfl dX4_advance_99 ?_
            refine lv_iconst (v := (1 : Int32)) hx hb dX4_advance_102 (by decide) ?_
            refine lv_iadd hx hb dX4_advance_103 ?_
            refine va_put (D := D) (ci := 4) (v := .int ((r_18 + (1 : Int32)))) (ty := .int) (C := RX4) (T := TX4) (N := 10) hx hb hts hinX4 tyX4 tyX4_ok nmX4 hown hK hP hD hS 0 rfl rfl 7 (by decide) k41 (fun _ h9 => h9) rfl (by decide +kernel) rfl rfl (Nat.le_of_ble_eq_true rfl) dX4_advance_104 (fun H locs hP hD hS => ?_)
            have hP : va_P D vwCl (wd_X4_advance cI cZ cB cG q_t q_t_text q_t_game t_error t_errorAt t_length (3 : Int32) r_18 ((r_18 + (1 : Int32))) t_value t_laid t_text) H := hP
            have hD : va_D A (wd_X4_advance cI cZ cB cG q_t q_t_text q_t_game t_error t_errorAt t_length (3 : Int32) r_18 ((r_18 + (1 : Int32))) t_value t_laid t_text) := hD
            refine lv_goto (tgt := 127) hx hb dX4_advance_107 (by decide) ?_
            exact hret (((3 : Int32), r_18, (r_18 + (1 : Int32)), t_value)) hf hP hD hS dX4_advance_127
        · have hf := hf.2 hc
          refine lv_aload_n hx hb dX4_advance_62 rfl (lv_at hl 2 rfl) ?_
          refine lv_iconst (v := (0 : Int32)) hx hb dX4_advance_63 (by decide) ?_
          refine va_put (D := D) (ci := 4) (v := .int (0 : Int32)) (ty := .int) (C := RX4) (T := TX4) (N := 10) hx hb hts hinX4 tyX4 tyX4_ok nmX4 hown hK hP hD hS 0 rfl rfl 5 (by decide) k38 (fun _ h9 => h9) rfl (by decide +kernel) rfl rfl (Nat.le_of_ble_eq_true rfl) dX4_advance_64 (fun H locs hP hD hS => ?_)
          have hP : va_P D vwCl (wd_X4_advance cI cZ cB cG q_t q_t_text q_t_game t_error t_errorAt t_length (0 : Int32) r_18 t_end t_value t_laid t_text) H := hP
          have hD : va_D A (wd_X4_advance cI cZ cB cG q_t q_t_text q_t_game t_error t_errorAt t_length (0 : Int32) r_18 t_end t_value t_laid t_text) := hD
          refine lv_aload_n hx hb dX4_advance_67 rfl (lv_at hl 2 rfl) ?_
          refine lv_aload_n hx hb dX4_advance_68 rfl (lv_at hl 2 rfl) ?_
          refine va_get (D := D) (ci := 4) (v := .int r_18) (C := RX4) (T := TX4) (N := 10) hx hb hts hinX4 hown hK hP 0 rfl rfl 6 (by decide) k71 (fun _ h9 => h9) rfl dX4_advance_69 ?_
          refine va_put (D := D) (ci := 4) (v := .int r_18) (ty := .int) (C := RX4) (T := TX4) (N := 10) hx hb hts hinX4 tyX4 tyX4_ok nmX4 hown hK hP hD hS 0 rfl rfl 7 (by decide) k41 (fun _ h9 => h9) rfl (by decide +kernel) rfl rfl (Nat.le_of_ble_eq_true rfl) dX4_advance_72 (fun H locs hP hD hS => ?_)
          have hP : va_P D vwCl (wd_X4_advance cI cZ cB cG q_t q_t_text q_t_game t_error t_errorAt t_length (0 : Int32) r_18 r_18 t_value t_laid t_text) H := hP
          have hD : va_D A (wd_X4_advance cI cZ cB cG q_t q_t_text q_t_game t_error t_errorAt t_length (0 : Int32) r_18 r_18 t_value t_laid t_text) := hD
          refine lv_goto (tgt := 127) hx hb dX4_advance_75 (by decide) ?_
          exact hret (((0 : Int32), r_18, r_18, t_value)) hf hP hD hS dX4_advance_127
      · have hf := hf.2 hc
        refine lv_iconst (v := (1 : Int32)) hx hb dX4_advance_45 (by decide) ?_
        refine lv_goto (tgt := 50) hx hb dX4_advance_46 (by decide) ?_
        refine lv_istore_n (lv' := [(2, .int (1 : Int32)), (1, .int (1 : Int32)), (0, .ref q_t)]) hx hb dX4_advance_50 rfl hl (by decide) rfl (fun ls hl => ?_)
        refine lv_aload_n hx hb dX4_advance_51 rfl (lv_at hl 2 rfl) ?_
        refine va_get (D := D) (ci := 4) (v := .int r_18) (C := RX4) (T := TX4) (N := 10) hx hb hts hinX4 hown hK hP 0 rfl rfl 6 (by decide) k71 (fun _ h9 => h9) rfl dX4_advance_52 ?_
        refine lv_aload_n hx hb dX4_advance_55 rfl (lv_at hl 2 rfl) ?_
        refine va_get (D := D) (ci := 4) (v := .int t_length) (C := RX4) (T := TX4) (N := 10) hx hb hts hinX4 hown hK hP 0 rfl rfl 4 (by decide) k32 (fun _ h9 => h9) rfl dX4_advance_56 ?_
        refine lv_icmp_lt (tgt := 78) hx hb dX4_advance_59 (by decide) (fun hc => ?_) (fun hc => ?_)
        · have hf := hf.1 hc
          refine lv_aload_n hx hb dX4_advance_78 rfl (lv_at hl 2 rfl) ?_
          refine va_get (D := D) (ci := 4) (v := .ref q_t_text) (C := RX4) (T := TX4) (N := 10) hx hb hts hinX4 hown hK hP 0 rfl rfl 0 (by decide) k22 (fun _ h9 => h9) rfl dX4_advance_79 ?_
          refine lv_aload_n hx hb dX4_advance_82 rfl (lv_at hl 2 rfl) ?_
          refine va_get (D := D) (ci := 4) (v := .int r_18) (C := RX4) (T := TX4) (N := 10) hx hb hts hinX4 hown hK hP 0 rfl rfl 6 (by decide) k71 (fun _ h9 => h9) rfl dX4_advance_83 ?_
          refine va_iald hx hb hK hP 1 0 rfl rfl (n := 600) hf.1 dX4_advance_86 ?_
          have hf := hf.2
          refine lv_bipush (v := (59 : Int32)) hx hb dX4_advance_87 (by decide) ?_
          refine lv_icmp_ne (tgt := 110) hx hb dX4_advance_89 (by decide) (fun hc => ?_) (fun hc => ?_)
          · have hf := hf.1 hc
            refine lv_aload_n hx hb dX4_advance_110 rfl (lv_at hl 2 rfl) ?_
            have hPc := hP.sub (ws' := (wd_X4_takeRun cI cZ cB cG q_t q_t_text q_t_game t_error t_errorAt t_length t_kind r_18 t_end t_value t_laid t_text)) [0, 1] rfl
            have hDc := hD.sub (ws' := (wd_X4_takeRun cI cZ cB cG q_t q_t_text q_t_game t_error t_errorAt t_length t_kind r_18 t_end t_value t_laid t_text)) [0, 1] (by decide +kernel) rfl
            have hFc := va_free (wc := (wd_X4_takeRun cI cZ cB cG q_t q_t_text q_t_game t_error t_errorAt t_length t_kind r_18 t_end t_value t_laid t_text)) hD hS hA [0, 1] rfl
            refine va_callv (va_runV (As := []) (rest := []) ⟨hx, hb, hml, hown, hts⟩ (c_X4_takeRun l D X cI cZ cB cG H.size q_t q_t_text q_t_game t_error t_errorAt t_length t_kind r_18 t_end t_value t_laid t_text _ hf) (cwV 0 hts gX4_advance_X4_takeRun rfl rfl rfl (by decide +kernel) ⟨Nat.le_of_ble_eq_true rfl, Nat.le_of_ble_eq_true rfl⟩) ⟨g_blind, va_recv hK hPc (ci := 4) (q0 := 0) rfl rfl, fun U hU hW => g_side hU hW hPc hK hDc hE hS hFc⟩ rfl rfl hl.1 rfl (lv_room (Nat.le_of_ble_eq_true rfl)) dX4_advance_111 ⟨Nat.zero_le _, Nat.zero_le _⟩) hS (fun q _ h => hFc q h) hFc (fun u t H1 locs ht hvm hw hB hz1 hk1 hS => ?_)
            obtain ⟨t_kind_22, t_end_23, t_value_24⟩ := u
            obtain ⟨hP1, hK1, hD1⟩ := hB
            rw [ht] at hP1
            obtain ⟨hP, hD⟩ := g_back (wc := (wd_X4_takeRun cI cZ cB cG q_t q_t_text q_t_game t_error t_errorAt t_length t_kind r_18 t_end t_value t_laid t_text)) (w1 := (wd_X4_takeRun cI cZ cB cG q_t q_t_text q_t_game t_error t_errorAt t_length t_kind_22 r_18 t_end_23 t_value_24 t_laid t_text)) hP hD [0, 1] rfl rfl hk1 hP1
            have hP : va_P D vwCl (wd_X4_advance cI cZ cB cG q_t q_t_text q_t_game t_error t_errorAt t_length t_kind_22 r_18 t_end_23 t_value_24 t_laid t_text) H1 := hP
            have hD : va_D A (wd_X4_advance cI cZ cB cG q_t q_t_text q_t_game t_error t_errorAt t_length t_kind_22 r_18 t_end_23 t_value_24 t_laid t_text) := hD
            have hf := hw
            generalize H1 = H at hP hS ⊢
            refine lv_iload_n hx hb dX4_advance_114 rfl (lv_at hl 1 rfl) ?_
            refine lv_if_eq (tgt := 127) hx hb dX4_advance_115 (by decide) (fun hc => absurd hc (by decide)) (fun _ => ?_)
            refine lv_iload_n hx hb dX4_advance_118 rfl (lv_at hl 0 rfl) ?_
            refine lv_if_ne (tgt := 127) hx hb dX4_advance_119 (by decide) (fun _ => ?_) (fun hc => absurd hc (by decide))
            exact hret (t_kind_22, r_18, t_end_23, t_value_24) hf hP hD hS dX4_advance_127
          · have hf := hf.2 hc
            refine lv_aload_n hx hb dX4_advance_92 rfl (lv_at hl 2 rfl) ?_
            refine lv_iconst (v := (3 : Int32)) hx hb dX4_advance_93 (by decide) ?_
            refine va_put (D := D) (ci := 4) (v := .int (3 : Int32)) (ty := .int) (C := RX4) (T := TX4) (N := 10) hx hb hts hinX4 tyX4 tyX4_ok nmX4 hown hK hP hD hS 0 rfl rfl 5 (by decide) k38 (fun _ h9 => h9) rfl (by decide +kernel) rfl rfl (Nat.le_of_ble_eq_true rfl) dX4_advance_94 (fun H locs hP hD hS => ?_)
            have hP : va_P D vwCl (wd_X4_advance cI cZ cB cG q_t q_t_text q_t_game t_error t_errorAt t_length (3 : Int32) r_18 t_end t_value t_laid t_text) H := hP
            have hD : va_D A (wd_X4_advance cI cZ cB cG q_t q_t_text q_t_game t_error t_errorAt t_length (3 : Int32) r_18 t_end t_value t_laid t_text) := hD
            refine lv_aload_n hx hb dX4_advance_97 rfl (lv_at hl 2 rfl) ?_
            refine lv_aload_n hx hb dX4_advance_98 rfl (lv_at hl 2 rfl) ?_
            refine va_get (D := D) (ci := 4) (v := .int r_18) (C := RX4) (T := TX4) (N := 10) hx hb hts hinX4 hown hK hP 0 rfl rfl 6 (by decide) k71 (fun _ h9 => h9) rfl dX4_advance_99 ?_
            refine lv_iconst (v := (1 : Int32)) hx hb dX4_advance_102 (by decide) ?_
            refine lv_iadd hx hb dX4_advance_103 ?_
            refine va_put (D := D) (ci := 4) (v := .int ((r_18 + (1 : Int32)))) (ty := .int) (C := RX4) (T := TX4) (N := 10) hx hb hts hinX4 tyX4 tyX4_ok nmX4 hown hK hP hD hS 0 rfl rfl 7 (by decide) k41 (fun _ h9 => h9) rfl (by decide +kernel) rfl rfl (Nat.le_of_ble_eq_true rfl) dX4_advance_104 (fun H locs hP hD hS => ?_)
            have hP : va_P D vwCl (wd_X4_advance cI cZ cB cG q_t q_t_text q_t_game t_error t_errorAt t_length (3 : Int32) r_18 ((r_18 + (1 : Int32))) t_value t_laid t_text) H := hP
            have hD : va_D A (wd_X4_advance cI cZ cB cG q_t q_t_text q_t_game t_error t_errorAt t_length (3 : Int32) r_18 ((r_18 + (1 : Int32))) t_value t_laid t_text) := hD
            refine lv_goto (tgt := 127) hx hb dX4_advance_107 (by decide) ?_
            exact hret (((3 : Int32), r_18, (r_18 + (1 : Int32)), t_value)) hf hP hD hS dX4_advance_127
        · have hf := hf.2 hc
          refine lv_aload_n hx hb dX4_advance_62 rfl (lv_at hl 2 rfl) ?_
          refine lv_iconst (v := (0 : Int32)) hx hb dX4_advance_63 (by decide) ?_
          refine va_put (D := D) (ci := 4) (v := .int (0 : Int32)) (ty := .int) (C := RX4) (T := TX4) (N := 10) hx hb hts hinX4 tyX4 tyX4_ok nmX4 hown hK hP hD hS 0 rfl rfl 5 (by decide) k38 (fun _ h9 => h9) rfl (by decide +kernel) rfl rfl (Nat.le_of_ble_eq_true rfl) dX4_advance_64 (fun H locs hP hD hS => ?_)
          have hP : va_P D vwCl (wd_X4_advance cI cZ cB cG q_t q_t_text q_t_game t_error t_errorAt t_length (0 : Int32) r_18 t_end t_value t_laid t_text) H := hP
          have hD : va_D A (wd_X4_advance cI cZ cB cG q_t q_t_text q_t_game t_error t_errorAt t_length (0 : Int32) r_18 t_end t_value t_laid t_text) := hD
          refine lv_aload_n hx hb dX4_advance_67 rfl (lv_at hl 2 rfl) ?_
          refine lv_aload_n hx hb dX4_advance_68 rfl (lv_at hl 2 rfl) ?_
          refine va_get (D := D) (ci := 4) (v := .int r_18) (C := RX4) (T := TX4) (N := 10) hx hb hts hinX4 hown hK hP 0 rfl rfl 6 (by decide) k71 (fun _ h9 => h9) rfl dX4_advance_69 ?_
          refine va_put (D := D) (ci := 4) (v := .int r_18) (ty := .int) (C := RX4) (T := TX4) (N := 10) hx hb hts hinX4 tyX4 tyX4_ok nmX4 hown hK hP hD hS 0 rfl rfl 7 (by decide) k41 (fun _ h9 => h9) rfl (by decide +kernel) rfl rfl (Nat.le_of_ble_eq_true rfl) dX4_advance_72 (fun H locs hP hD hS => ?_)
          have hP : va_P D vwCl (wd_X4_advance cI cZ cB cG q_t q_t_text q_t_game t_error t_errorAt t_length (0 : Int32) r_18 r_18 t_value t_laid t_text) H := hP
          have hD : va_D A (wd_X4_advance cI cZ cB cG q_t q_t_text q_t_game t_error t_errorAt t_length (0 : Int32) r_18 r_18 t_value t_laid t_text) := hD
          refine lv_goto (tgt := 127) hx hb dX4_advance_75 (by decide) ?_
          exact hret (((0 : Int32), r_18, r_18, t_value)) hf hP hD hS dX4_advance_127
abbrev wd_X4_readCall (cI cZ cB cG : ClassId) (q_t : Nat) (q_t_game : Nat) (q_t_game_calls : Nat) (q_t_text : Nat) (q_t_game_from : Nat) (q_t_game_to : Nat) (q_t_game_heard : Nat) (t_error : Int32) (t_errorAt : Int32) (t_length : Int32) (t_kind : Int32) (t_start : Int32) (t_end : Int32) (t_value : Int32) (t_laid : Int32) (t_game_places : Int32) (t_game_odd : Int32) (t_game_moves : Int32) (t_game_token : Int32) (t_game_made : Int32) (t_game_calls : (Nat → Int32)) : va_W := [(q_t, .inr (4, [.ref q_t_text, .ref q_t_game, .int t_error, .int t_errorAt, .int t_length, .int t_kind, .int t_start, .int t_end, .int t_value, .int t_laid])), (q_t_game, .inr (1, [.int t_game_places, .int t_game_odd, .ref q_t_game_calls, .int t_game_moves, .ref q_t_game_from, .ref q_t_game_to, .int t_game_token, .int t_game_made, .ref q_t_game_heard])), (q_t_game_calls, .inl (cI, 20, .inl t_game_calls))]
def wp_X4_readCall (a1 : Int32) (t_error : Int32) (t_errorAt : Int32) (t_start : Int32) (t_value : Int32) (t_game_places : Int32) (t_game_odd : Int32) (t_game_calls : (Nat → Int32)) (post : Int32 → Int32 → Int32 → Int32 → (Nat → Int32) → Prop) : Prop := ((t_value < (10 : Int32) → ((t_game_places < (20 : Int32) → (wp_X1_appendPlace a1 t_value t_game_places t_game_odd t_game_calls (fun t_game_places_1 t_game_odd_2 t_game_calls_3 => (post t_error t_errorAt t_game_places_1 t_game_odd_2 t_game_calls_3)))) ∧ (¬ (t_game_places < (20 : Int32)) → (wp_X4_fail (5 : Int32) t_error t_errorAt t_start (fun t_error_4 t_errorAt_5 => (post t_error_4 t_errorAt_5 t_game_places t_game_odd t_game_calls)))))) ∧ (¬ (t_value < (10 : Int32)) → (wp_X4_fail (2 : Int32) t_error t_errorAt t_start (fun t_error_6 t_errorAt_7 => (post t_error_6 t_errorAt_7 t_game_places t_game_odd t_game_calls)))))
abbrev rm_X4_readCall : Room := { frames := 2, cells := 0, slots := 0, locals := 102 }
theorem in_X4_readCall_X1 : ∀ w ∈ u_ws RX1 TX1 9, w ∈ wsX4_readCall := by decide +kernel
theorem in_X4_readCall_X4 : ∀ w ∈ u_ws RX4 TX4 10, w ∈ wsX4_readCall := by decide +kernel
theorem k_X4_readCall_65 : Cond.fieldLink RX4 65 "ParityGame$Game" "places" "I" ∈ wsX4_readCall := by decide +kernel
theorem k_X4_readCall_12 : Cond.fieldLink RX4 12 "ParityGame$Reader" "game" "LParityGame$Game;" ∈ wsX4_readCall := by decide +kernel
theorem k_X4_readCall_94 : Cond.fieldLink RX4 94 "ParityGame$Reader" "value" "I" ∈ wsX4_readCall := by decide +kernel
set_option maxHeartbeats 40000000 in
set_option maxRecDepth 100000 in
theorem c_X4_readCall (l : Launch) (D : va_G) (X : gX) (cI cZ cB cG : ClassId) (sz : Nat) (q_t : Nat) (q_t_game : Nat) (q_t_game_calls : Nat) (q_t_text : Nat) (q_t_game_from : Nat) (q_t_game_to : Nat) (q_t_game_heard : Nat) (a1 : Int32) (t_error : Int32) (t_errorAt : Int32) (t_length : Int32) (t_kind : Int32) (t_start : Int32) (t_end : Int32) (t_value : Int32) (t_laid : Int32) (t_game_places : Int32) (t_game_odd : Int32) (t_game_moves : Int32) (t_game_token : Int32) (t_game_made : Int32) (t_game_calls : (Nat → Int32)) (post : Int32 → Int32 → Int32 → Int32 → (Nat → Int32) → Prop) (hf : wp_X4_readCall a1 t_error t_errorAt t_start t_value t_game_places t_game_odd t_game_calls post) : Met l yX4_readCall wsX4_readCall rm_X4_readCall (gP D X (gT cI cZ cB cG) sz [.ref q_t, .int a1] (wd_X4_readCall cI cZ cB cG q_t q_t_game q_t_game_calls q_t_text q_t_game_from q_t_game_to q_t_game_heard t_error t_errorAt t_length t_kind t_start t_end t_value t_laid t_game_places t_game_odd t_game_moves t_game_token t_game_made t_game_calls)) (va_Qv (fun (u : Int32 × Int32 × Int32 × Int32 × (Nat → Int32)) => post u.1 u.2.1 u.2.2.1 u.2.2.2.1 u.2.2.2.2) (fun u t => gB D (gT cI cZ cB cG) (va_A (wd_X4_readCall cI cZ cB cG q_t q_t_game q_t_game_calls q_t_text q_t_game_from q_t_game_to q_t_game_heard t_error t_errorAt t_length t_kind t_start t_end t_value t_laid t_game_places t_game_odd t_game_moves t_game_token t_game_made t_game_calls) sz) (wd_X4_readCall cI cZ cB cG q_t q_t_game q_t_game_calls q_t_text q_t_game_from q_t_game_to q_t_game_heard u.1 u.2.1 t_length t_kind t_start t_end t_value t_laid u.2.2.1 u.2.2.2.1 t_game_moves t_game_token t_game_made u.2.2.2.2) t) (va_A (wd_X4_readCall cI cZ cB cG q_t q_t_game q_t_game_calls q_t_text q_t_game_from q_t_game_to q_t_game_heard t_error t_errorAt t_length t_kind t_start t_end t_value t_laid t_game_places t_game_odd t_game_moves t_game_token t_game_made t_game_calls) sz)) 0 0 (va_A (wd_X4_readCall cI cZ cB cG q_t q_t_game q_t_game_calls q_t_text q_t_game_from q_t_game_to q_t_game_heard t_error t_errorAt t_length t_kind t_start t_end t_value t_laid t_game_places t_game_odd t_game_moves t_game_token t_game_made t_game_calls) sz) := by
  refine g_ofWv (cc := cX4_readCall) (maxL := 2) (by decide +kernel) (Nat.le_of_ble_eq_true rfl) rfl ?_
  intro p e s m args below meth c A Q hx hb hml hown hts hA hK hE H hP hD hS ls hl hret
  have hinX1 := in_X4_readCall_X1
  have hinX4 := in_X4_readCall_X4
  have k65 := hts _ k_X4_readCall_65
  have k12 := hts _ k_X4_readCall_12
  have k94 := hts _ k_X4_readCall_94
  have hl : lv_has ls 2 [(0, .ref q_t), (1, .int a1)] := hl
  unfold wp_X4_readCall at hf
  refine lv_aload_n hx hb dX4_readCall_0 rfl (lv_at hl 0 rfl) ?_
  refine va_get (D := D) (ci := 4) (v := .int t_value) (C := RX4) (T := TX4) (N := 10) hx hb hts hinX4 hown hK hP 0 rfl rfl 8 (by decide) k94 (fun _ h9 => h9) rfl dX4_readCall_1 ?_
  refine lv_bipush (v := (10 : Int32)) hx hb dX4_readCall_4 (by decide) ?_
  refine lv_icmp_lt (tgt := 17) hx hb dX4_readCall_6 (by decide) (fun hc => ?_) (fun hc => ?_)
  · have hf := hf.1 hc
    refine lv_aload_n hx hb dX4_readCall_17 rfl (lv_at hl 0 rfl) ?_
    refine va_get (D := D) (ci := 4) (v := .ref q_t_game) (C := RX4) (T := TX4) (N := 10) hx hb hts hinX4 hown hK hP 0 rfl rfl 1 (by decide) k12 (fun _ h9 => h9) rfl dX4_readCall_18 ?_
    refine va_get (D := D) (ci := 1) (v := .int t_game_places) (C := RX1) (T := TX1) (N := 9) hx hb hts hinX1 hown hK hP 1 rfl rfl 0 (by decide) k65 (fun _ h9 => h9) rfl dX4_readCall_21 ?_
    refine lv_bipush (v := (20 : Int32)) hx hb dX4_readCall_24 (by decide) ?_
    refine lv_icmp_lt (tgt := 37) hx hb dX4_readCall_26 (by decide) (fun hc => ?_) (fun hc => ?_)
    · have hf := hf.1 hc
      refine lv_aload_n hx hb dX4_readCall_37 rfl (lv_at hl 0 rfl) ?_
      refine va_get (D := D) (ci := 4) (v := .ref q_t_game) (C := RX4) (T := TX4) (N := 10) hx hb hts hinX4 hown hK hP 0 rfl rfl 1 (by decide) k12 (fun _ h9 => h9) rfl dX4_readCall_38 ?_
      refine lv_iload_n hx hb dX4_readCall_41 rfl (lv_at hl 1 rfl) ?_
      refine lv_aload_n hx hb dX4_readCall_42 rfl (lv_at hl 0 rfl) ?_
      refine va_get (D := D) (ci := 4) (v := .int t_value) (C := RX4) (T := TX4) (N := 10) hx hb hts hinX4 hown hK hP 0 rfl rfl 8 (by decide) k94 (fun _ h9 => h9) rfl dX4_readCall_43 ?_
      have hPc := hP.sub (ws' := (wd_X1_appendPlace cI cZ cB cG q_t_game q_t_game_calls q_t_game_from q_t_game_to q_t_game_heard t_game_places t_game_odd t_game_moves t_game_token t_game_made t_game_calls)) [1, 2] rfl
      have hDc := hD.sub (ws' := (wd_X1_appendPlace cI cZ cB cG q_t_game q_t_game_calls q_t_game_from q_t_game_to q_t_game_heard t_game_places t_game_odd t_game_moves t_game_token t_game_made t_game_calls)) [1, 2] (by decide +kernel) rfl
      have hFc := va_free (wc := (wd_X1_appendPlace cI cZ cB cG q_t_game q_t_game_calls q_t_game_from q_t_game_to q_t_game_heard t_game_places t_game_odd t_game_moves t_game_token t_game_made t_game_calls)) hD hS hA [1, 2] rfl
      refine va_callv (va_runV (As := [.int a1, .int t_value]) (rest := []) ⟨hx, hb, hml, hown, hts⟩ (c_X1_appendPlace l D X cI cZ cB cG H.size q_t_game q_t_game_calls q_t_game_from q_t_game_to q_t_game_heard a1 t_value t_game_places t_game_odd t_game_moves t_game_token t_game_made t_game_calls _ hf) (cwV 2 hts gX4_readCall_X1_appendPlace rfl rfl rfl (by decide +kernel) ⟨Nat.le_of_ble_eq_true rfl, Nat.le_of_ble_eq_true rfl⟩) ⟨g_blind, va_recv hK hPc (ci := 1) (q0 := 0) rfl rfl, fun U hU hW => g_side hU hW hPc hK hDc hE hS hFc⟩ rfl rfl hl.1 rfl (lv_room (Nat.le_of_ble_eq_true rfl)) dX4_readCall_46 ⟨Nat.zero_le _, Nat.zero_le _⟩) hS (fun q _ h => hFc q h) hFc (fun u t H1 locs ht hvm hw hB hz1 hk1 hS => ?_)
      obtain ⟨t_game_places_1, t_game_odd_2, t_game_calls_3⟩ := u
      obtain ⟨hP1, hK1, hD1⟩ := hB
      rw [ht] at hP1
      obtain ⟨hP, hD⟩ := g_back (wc := (wd_X1_appendPlace cI cZ cB cG q_t_game q_t_game_calls q_t_game_from q_t_game_to q_t_game_heard t_game_places t_game_odd t_game_moves t_game_token t_game_made t_game_calls)) (w1 := (wd_X1_appendPlace cI cZ cB cG q_t_game q_t_game_calls q_t_game_from q_t_game_to q_t_game_heard t_game_places_1 t_game_odd_2 t_game_moves t_game_token t_game_made t_game_calls_3)) hP hD [1, 2] rfl rfl hk1 hP1
      have hP : va_P D vwCl (wd_X4_readCall cI cZ cB cG q_t q_t_game q_t_game_calls q_t_text q_t_game_from q_t_game_to q_t_game_heard t_error t_errorAt t_length t_kind t_start t_end t_value t_laid t_game_places_1 t_game_odd_2 t_game_moves t_game_token t_game_made t_game_calls_3) H1 := hP
      have hD : va_D A (wd_X4_readCall cI cZ cB cG q_t q_t_game q_t_game_calls q_t_text q_t_game_from q_t_game_to q_t_game_heard t_error t_errorAt t_length t_kind t_start t_end t_value t_laid t_game_places_1 t_game_odd_2 t_game_moves t_game_token t_game_made t_game_calls_3) := hD
      have hf := hw
      generalize H1 = H at hP hS ⊢
      exact hret (t_error, t_errorAt, t_game_places_1, t_game_odd_2, t_game_calls_3) hf hP hD hS dX4_readCall_49
    · have hf := hf.2 hc
      refine lv_aload_n hx hb dX4_readCall_29 rfl (lv_at hl 0 rfl) ?_
      refine lv_iconst (v := (5 : Int32)) hx hb dX4_readCall_30 (by decide) ?_
      have hPc := hP.sub (ws' := (wd_X4_fail cI cZ cB cG q_t q_t_text q_t_game t_error t_errorAt t_length t_kind t_start t_end t_value t_laid)) [0] rfl
      have hDc := hD.sub (ws' := (wd_X4_fail cI cZ cB cG q_t q_t_text q_t_game t_error t_errorAt t_length t_kind t_start t_end t_value t_laid)) [0] (by decide +kernel) rfl
      have hFc := va_free (wc := (wd_X4_fail cI cZ cB cG q_t q_t_text q_t_game t_error t_errorAt t_length t_kind t_start t_end t_value t_laid)) hD hS hA [0] rfl
      refine va_callv (va_runV (As := [.int (5 : Int32)]) (rest := []) ⟨hx, hb, hml, hown, hts⟩ (c_X4_fail l D X cI cZ cB cG H.size q_t q_t_text q_t_game (5 : Int32) t_error t_errorAt t_length t_kind t_start t_end t_value t_laid _ hf) (cwV 1 hts gX4_readCall_X4_fail rfl rfl rfl (by decide +kernel) ⟨Nat.le_of_ble_eq_true rfl, Nat.le_of_ble_eq_true rfl⟩) ⟨g_blind, va_recv hK hPc (ci := 4) (q0 := 0) rfl rfl, fun U hU hW => g_side hU hW hPc hK hDc hE hS hFc⟩ rfl rfl hl.1 rfl (lv_room (Nat.le_of_ble_eq_true rfl)) dX4_readCall_31 ⟨Nat.zero_le _, Nat.zero_le _⟩) hS (fun q _ h => hFc q h) hFc (fun u t H1 locs ht hvm hw hB hz1 hk1 hS => ?_)
      obtain ⟨t_error_4, t_errorAt_5⟩ := u
      obtain ⟨hP1, hK1, hD1⟩ := hB
      rw [ht] at hP1
      obtain ⟨hP, hD⟩ := g_back (wc := (wd_X4_fail cI cZ cB cG q_t q_t_text q_t_game t_error t_errorAt t_length t_kind t_start t_end t_value t_laid)) (w1 := (wd_X4_fail cI cZ cB cG q_t q_t_text q_t_game t_error_4 t_errorAt_5 t_length t_kind t_start t_end t_value t_laid)) hP hD [0] rfl rfl hk1 hP1
      have hP : va_P D vwCl (wd_X4_readCall cI cZ cB cG q_t q_t_game q_t_game_calls q_t_text q_t_game_from q_t_game_to q_t_game_heard t_error_4 t_errorAt_5 t_length t_kind t_start t_end t_value t_laid t_game_places t_game_odd t_game_moves t_game_token t_game_made t_game_calls) H1 := hP
      have hD : va_D A (wd_X4_readCall cI cZ cB cG q_t q_t_game q_t_game_calls q_t_text q_t_game_from q_t_game_to q_t_game_heard t_error_4 t_errorAt_5 t_length t_kind t_start t_end t_value t_laid t_game_places t_game_odd t_game_moves t_game_token t_game_made t_game_calls) := hD
      have hf := hw
      generalize H1 = H at hP hS ⊢
      refine lv_goto (tgt := 49) hx hb dX4_readCall_34 (by decide) ?_
      exact hret (t_error_4, t_errorAt_5, t_game_places, t_game_odd, t_game_calls) hf hP hD hS dX4_readCall_49
  · have hf := hf.2 hc
    refine lv_aload_n hx hb dX4_readCall_9 rfl (lv_at hl 0 rfl) ?_
    refine lv_iconst (v := (2 : Int32)) hx hb dX4_readCall_10 (by decide) ?_
    have hPc := hP.sub (ws' := (wd_X4_fail cI cZ cB cG q_t q_t_text q_t_game t_error t_errorAt t_length t_kind t_start t_end t_value t_laid)) [0] rfl
    have hDc := hD.sub (ws' := (wd_X4_fail cI cZ cB cG q_t q_t_text q_t_game t_error t_errorAt t_length t_kind t_start t_end t_value t_laid)) [0] (by decide +kernel) rfl
    have hFc := va_free (wc := (wd_X4_fail cI cZ cB cG q_t q_t_text q_t_game t_error t_errorAt t_length t_kind t_start t_end t_value t_laid)) hD hS hA [0] rfl
    refine va_callv (va_runV (As := [.int (2 : Int32)]) (rest := []) ⟨hx, hb, hml, hown, hts⟩ (c_X4_fail l D X cI cZ cB cG H.size q_t q_t_text q_t_game (2 : Int32) t_error t_errorAt t_length t_kind t_start t_end t_value t_laid _ hf) (cwV 1 hts gX4_readCall_X4_fail rfl rfl rfl (by decide +kernel) ⟨Nat.le_of_ble_eq_true rfl, Nat.le_of_ble_eq_true rfl⟩) ⟨g_blind, va_recv hK hPc (ci := 4) (q0 := 0) rfl rfl, fun U hU hW => g_side hU hW hPc hK hDc hE hS hFc⟩ rfl rfl hl.1 rfl (lv_room (Nat.le_of_ble_eq_true rfl)) dX4_readCall_11 ⟨Nat.zero_le _, Nat.zero_le _⟩) hS (fun q _ h => hFc q h) hFc (fun u t H1 locs ht hvm hw hB hz1 hk1 hS => ?_)
    obtain ⟨t_error_6, t_errorAt_7⟩ := u
    obtain ⟨hP1, hK1, hD1⟩ := hB
    rw [ht] at hP1
    obtain ⟨hP, hD⟩ := g_back (wc := (wd_X4_fail cI cZ cB cG q_t q_t_text q_t_game t_error t_errorAt t_length t_kind t_start t_end t_value t_laid)) (w1 := (wd_X4_fail cI cZ cB cG q_t q_t_text q_t_game t_error_6 t_errorAt_7 t_length t_kind t_start t_end t_value t_laid)) hP hD [0] rfl rfl hk1 hP1
    have hP : va_P D vwCl (wd_X4_readCall cI cZ cB cG q_t q_t_game q_t_game_calls q_t_text q_t_game_from q_t_game_to q_t_game_heard t_error_6 t_errorAt_7 t_length t_kind t_start t_end t_value t_laid t_game_places t_game_odd t_game_moves t_game_token t_game_made t_game_calls) H1 := hP
    have hD : va_D A (wd_X4_readCall cI cZ cB cG q_t q_t_game q_t_game_calls q_t_text q_t_game_from q_t_game_to q_t_game_heard t_error_6 t_errorAt_7 t_length t_kind t_start t_end t_value t_laid t_game_places t_game_odd t_game_moves t_game_token t_game_made t_game_calls) := hD
    have hf := hw
    generalize H1 = H at hP hS ⊢
    refine lv_goto (tgt := 49) hx hb dX4_readCall_14 (by decide) ?_
    exact hret (t_error_6, t_errorAt_7, t_game_places, t_game_odd, t_game_calls) hf hP hD hS dX4_readCall_49
abbrev wd_X4_readPlaces (cI cZ cB cG : ClassId) (q_t : Nat) (q_t_game : Nat) (q_t_text : Nat) (q_t_game_calls : Nat) (q_t_game_from : Nat) (q_t_game_to : Nat) (q_t_game_heard : Nat) (t_error : Int32) (t_errorAt : Int32) (t_length : Int32) (t_kind : Int32) (t_start : Int32) (t_end : Int32) (t_value : Int32) (t_laid : Int32) (t_game_places : Int32) (t_game_odd : Int32) (t_game_moves : Int32) (t_game_token : Int32) (t_game_made : Int32) (t_text : (Nat → Int32)) (t_game_calls : (Nat → Int32)) : va_W := [(q_t, .inr (4, [.ref q_t_text, .ref q_t_game, .int t_error, .int t_errorAt, .int t_length, .int t_kind, .int t_start, .int t_end, .int t_value, .int t_laid])), (q_t_game, .inr (1, [.int t_game_places, .int t_game_odd, .ref q_t_game_calls, .int t_game_moves, .ref q_t_game_from, .ref q_t_game_to, .int t_game_token, .int t_game_made, .ref q_t_game_heard])), (q_t_text, .inl (cI, 600, .inl t_text)), (q_t_game_calls, .inl (cI, 20, .inl t_game_calls))]
def F_X4_readPlaces_19 (v1 : Int32) (t_length : Int32) (t_text : (Nat → Int32)) (K0 : Int32 → Int32 → Int32 → Int32 → Int32 → Int32 → Int32 → Int32 → Int32 → (Nat → Int32) → Prop) (rec : Int32 → Int32 → Int32 → Int32 → Int32 → Int32 → Int32 → Int32 → Int32 → (Nat → Int32) → Prop) (v2 : Int32) (t_error : Int32) (t_errorAt : Int32) (t_kind : Int32) (t_start : Int32) (t_end : Int32) (t_value : Int32) (t_game_places : Int32) (t_game_odd : Int32) (t_game_calls : (Nat → Int32)) : Prop := ((t_length ≤ v2 → (K0 v2 t_error t_errorAt t_kind t_start t_end t_value t_game_places t_game_odd t_game_calls)) ∧ (¬ (t_length ≤ v2) → ((¬ t_error = (0 : Int32) → (K0 v2 t_error t_errorAt t_kind t_start t_end t_value t_game_places t_game_odd t_game_calls)) ∧ (t_error = (0 : Int32) → ((¬ t_kind = (2 : Int32) → (K0 v2 t_error t_errorAt t_kind t_start t_end t_value t_game_places t_game_odd t_game_calls)) ∧ (t_kind = (2 : Int32) → (wp_X4_readCall v1 t_error t_errorAt t_start t_value t_game_places t_game_odd t_game_calls (fun t_error_5 t_errorAt_6 t_game_places_7 t_game_odd_8 t_game_calls_9 => (wp_X4_advance t_length t_kind t_end t_value t_text (fun t_kind_10 t_start_11 t_end_12 t_value_13 => (rec ((v2 + (1 : Int32))) t_error_5 t_errorAt_6 t_kind_10 t_start_11 t_end_12 t_value_13 t_game_places_7 t_game_odd_8 t_game_calls_9)))))))))))
def wp_X4_readPlaces (a1 : Int32) (t_error : Int32) (t_errorAt : Int32) (t_length : Int32) (t_kind : Int32) (t_end : Int32) (t_value : Int32) (t_game_places : Int32) (t_game_odd : Int32) (t_text : (Nat → Int32)) (t_game_calls : (Nat → Int32)) (post : Int32 → Int32 → Int32 → Int32 → Int32 → Int32 → Int32 → Int32 → (Nat → Int32) → Prop) : Prop := (wp_X4_advance t_length t_kind t_end t_value t_text (fun t_kind_1 t_start_2 t_end_3 t_value_4 => ((t_kind_1 = (2 : Int32) → (∃ n, fx10 (F_X4_readPlaces_19 a1 t_length t_text (fun v2_14 t_error_15 t_errorAt_16 t_kind_17 t_start_18 t_end_19 t_value_20 t_game_places_21 t_game_odd_22 t_game_calls_23 => (post t_error_15 t_errorAt_16 t_kind_17 t_start_18 t_end_19 t_value_20 t_game_places_21 t_game_odd_22 t_game_calls_23))) n (0 : Int32) t_error t_errorAt t_kind_1 t_start_2 t_end_3 t_value_4 t_game_places t_game_odd t_game_calls)) ∧ (¬ (t_kind_1 = (2 : Int32)) → (wp_X4_fail (1 : Int32) t_error t_errorAt t_start_2 (fun t_error_24 t_errorAt_25 => (∃ n, fx10 (F_X4_readPlaces_19 a1 t_length t_text (fun v2_26 t_error_27 t_errorAt_28 t_kind_29 t_start_30 t_end_31 t_value_32 t_game_places_33 t_game_odd_34 t_game_calls_35 => (post t_error_27 t_errorAt_28 t_kind_29 t_start_30 t_end_31 t_value_32 t_game_places_33 t_game_odd_34 t_game_calls_35))) n (0 : Int32) t_error_24 t_errorAt_25 t_kind_1 t_start_2 t_end_3 t_value_4 t_game_places t_game_odd t_game_calls)))))))
abbrev rm_X4_readPlaces : Room := { frames := 4, cells := 0, slots := 0, locals := 145 }
theorem in_X4_readPlaces_X4 : ∀ w ∈ u_ws RX4 TX4 10, w ∈ wsX4_readPlaces := by decide +kernel
theorem k_X4_readPlaces_32 : Cond.fieldLink RX4 32 "ParityGame$Reader" "length" "I" ∈ wsX4_readPlaces := by decide +kernel
theorem k_X4_readPlaces_35 : Cond.fieldLink RX4 35 "ParityGame$Reader" "error" "I" ∈ wsX4_readPlaces := by decide +kernel
theorem k_X4_readPlaces_38 : Cond.fieldLink RX4 38 "ParityGame$Reader" "kind" "I" ∈ wsX4_readPlaces := by decide +kernel
set_option maxHeartbeats 40000000 in
set_option maxRecDepth 100000 in
theorem c_X4_readPlaces (l : Launch) (D : va_G) (X : gX) (cI cZ cB cG : ClassId) (sz : Nat) (q_t : Nat) (q_t_game : Nat) (q_t_text : Nat) (q_t_game_calls : Nat) (q_t_game_from : Nat) (q_t_game_to : Nat) (q_t_game_heard : Nat) (a1 : Int32) (t_error : Int32) (t_errorAt : Int32) (t_length : Int32) (t_kind : Int32) (t_start : Int32) (t_end : Int32) (t_value : Int32) (t_laid : Int32) (t_game_places : Int32) (t_game_odd : Int32) (t_game_moves : Int32) (t_game_token : Int32) (t_game_made : Int32) (t_text : (Nat → Int32)) (t_game_calls : (Nat → Int32)) (post : Int32 → Int32 → Int32 → Int32 → Int32 → Int32 → Int32 → Int32 → (Nat → Int32) → Prop) (hf : wp_X4_readPlaces a1 t_error t_errorAt t_length t_kind t_end t_value t_game_places t_game_odd t_text t_game_calls post) : Met l yX4_readPlaces wsX4_readPlaces rm_X4_readPlaces (gP D X (gT cI cZ cB cG) sz [.ref q_t, .int a1] (wd_X4_readPlaces cI cZ cB cG q_t q_t_game q_t_text q_t_game_calls q_t_game_from q_t_game_to q_t_game_heard t_error t_errorAt t_length t_kind t_start t_end t_value t_laid t_game_places t_game_odd t_game_moves t_game_token t_game_made t_text t_game_calls)) (va_Qv (fun (u : Int32 × Int32 × Int32 × Int32 × Int32 × Int32 × Int32 × Int32 × (Nat → Int32)) => post u.1 u.2.1 u.2.2.1 u.2.2.2.1 u.2.2.2.2.1 u.2.2.2.2.2.1 u.2.2.2.2.2.2.1 u.2.2.2.2.2.2.2.1 u.2.2.2.2.2.2.2.2) (fun u t => gB D (gT cI cZ cB cG) (va_A (wd_X4_readPlaces cI cZ cB cG q_t q_t_game q_t_text q_t_game_calls q_t_game_from q_t_game_to q_t_game_heard t_error t_errorAt t_length t_kind t_start t_end t_value t_laid t_game_places t_game_odd t_game_moves t_game_token t_game_made t_text t_game_calls) sz) (wd_X4_readPlaces cI cZ cB cG q_t q_t_game q_t_text q_t_game_calls q_t_game_from q_t_game_to q_t_game_heard u.1 u.2.1 t_length u.2.2.1 u.2.2.2.1 u.2.2.2.2.1 u.2.2.2.2.2.1 t_laid u.2.2.2.2.2.2.1 u.2.2.2.2.2.2.2.1 t_game_moves t_game_token t_game_made t_text u.2.2.2.2.2.2.2.2) t) (va_A (wd_X4_readPlaces cI cZ cB cG q_t q_t_game q_t_text q_t_game_calls q_t_game_from q_t_game_to q_t_game_heard t_error t_errorAt t_length t_kind t_start t_end t_value t_laid t_game_places t_game_odd t_game_moves t_game_token t_game_made t_text t_game_calls) sz)) 0 0 (va_A (wd_X4_readPlaces cI cZ cB cG q_t q_t_game q_t_text q_t_game_calls q_t_game_from q_t_game_to q_t_game_heard t_error t_errorAt t_length t_kind t_start t_end t_value t_laid t_game_places t_game_odd t_game_moves t_game_token t_game_made t_text t_game_calls) sz) := by
  refine g_ofWv (cc := cX4_readPlaces) (maxL := 3) (by decide +kernel) (Nat.le_of_ble_eq_true rfl) rfl ?_
  intro p e s m args below meth c A Q hx hb hml hown hts hA hK hE H hP hD hS ls hl hret
  have hinX4 := in_X4_readPlaces_X4
  have k32 := hts _ k_X4_readPlaces_32
  have k35 := hts _ k_X4_readPlaces_35
  have k38 := hts _ k_X4_readPlaces_38
  have hl : lv_has ls 3 [(0, .ref q_t), (1, .int a1)] := hl
  have L19 : ∀ (v1 : Int32) (K0 : Int32 → Int32 → Int32 → Int32 → Int32 → Int32 → Int32 → Int32 → Int32 → (Nat → Int32) → Prop) (_ : ∀ (v2 : Int32) (t_error : Int32) (t_errorAt : Int32) (t_kind : Int32) (t_start : Int32) (t_end : Int32) (t_value : Int32) (t_game_places : Int32) (t_game_odd : Int32) (t_game_calls : (Nat → Int32)) (H : Heap) (locs : List Loc) (ls : Array Slot), K0 v2 t_error t_errorAt t_kind t_start t_end t_value t_game_places t_game_odd t_game_calls → va_P D vwCl (wd_X4_readPlaces cI cZ cB cG q_t q_t_game q_t_text q_t_game_calls q_t_game_from q_t_game_to q_t_game_heard t_error t_errorAt t_length t_kind t_start t_end t_value t_laid t_game_places t_game_odd t_game_moves t_game_token t_game_made t_text t_game_calls) H → va_D A (wd_X4_readPlaces cI cZ cB cG q_t q_t_game q_t_text q_t_game_calls q_t_game_from q_t_game_to q_t_game_heard t_error t_errorAt t_length t_kind t_start t_end t_value t_laid t_game_places t_game_odd t_game_moves t_game_token t_game_made t_text t_game_calls) → va_S A s.heap H locs → lv_has ls 3 [] → W p l e (rm_X4_readPlaces) s m args below meth c H locs 0 0 Q (F0 m 57 ls []))  (n : Nat) (v2 : Int32) (t_error : Int32) (t_errorAt : Int32) (t_kind : Int32) (t_start : Int32) (t_end : Int32) (t_value : Int32) (t_game_places : Int32) (t_game_odd : Int32) (t_game_calls : (Nat → Int32)) (H : Heap) (locs : List Loc) (ls : Array Slot), fx10 (F_X4_readPlaces_19 v1 t_length t_text K0) n v2 t_error t_errorAt t_kind t_start t_end t_value t_game_places t_game_odd t_game_calls → va_P D vwCl (wd_X4_readPlaces cI cZ cB cG q_t q_t_game q_t_text q_t_game_calls q_t_game_from q_t_game_to q_t_game_heard t_error t_errorAt t_length t_kind t_start t_end t_value t_laid t_game_places t_game_odd t_game_moves t_game_token t_game_made t_text t_game_calls) H → va_D A (wd_X4_readPlaces cI cZ cB cG q_t q_t_game q_t_text q_t_game_calls q_t_game_from q_t_game_to q_t_game_heard t_error t_errorAt t_length t_kind t_start t_end t_value t_laid t_game_places t_game_odd t_game_moves t_game_token t_game_made t_text t_game_calls) → va_S A s.heap H locs → lv_has ls 3 [(0, .ref q_t), (1, .int v1), (2, .int v2)] → W p l e (rm_X4_readPlaces) s m args below meth c H locs 0 0 Q (F0 m 19 ls []) := by
    intro v1 K0 hK0 n
    induction n with
    | zero => intro v2 t_error t_errorAt t_kind t_start t_end t_value t_game_places t_game_odd t_game_calls H locs ls hf; exact (hf : False).elim
    | succ n ih =>
      intro v2 t_error t_errorAt t_kind t_start t_end t_value t_game_places t_game_odd t_game_calls H locs ls hf hP hD hS hl
      have hf : F_X4_readPlaces_19 v1 t_length t_text K0 (fx10 (F_X4_readPlaces_19 v1 t_length t_text K0) n) v2 t_error t_errorAt t_kind t_start t_end t_value t_game_places t_game_odd t_game_calls := hf
      unfold F_X4_readPlaces_19 at hf
      refine lv_iload_n hx hb dX4_readPlaces_19 rfl (lv_at hl 2 rfl) ?_
      refine lv_aload_n hx hb dX4_readPlaces_20 rfl (lv_at hl 0 rfl) ?_
      refine va_get (D := D) (ci := 4) (v := .int t_length) (C := RX4) (T := TX4) (N := 10) hx hb hts hinX4 hown hK hP 0 rfl rfl 4 (by decide) k32 (fun _ h9 => h9) rfl dX4_readPlaces_21 ?_
      refine lv_icmp_ge (tgt := 57) hx hb dX4_readPlaces_24 (by decide) (fun hc => ?_) (fun hc => ?_)
      · have hf := hf.1 hc
        exact hK0 _ _ _ _ _ _ _ _ _ _ _ _ _ hf hP hD hS (lv_sub hl [] rfl)
      · have hf := hf.2 hc
        refine lv_aload_n hx hb dX4_readPlaces_27 rfl (lv_at hl 0 rfl) ?_
        refine va_get (D := D) (ci := 4) (v := .int t_error) (C := RX4) (T := TX4) (N := 10) hx hb hts hinX4 hown hK hP 0 rfl rfl 2 (by decide) k35 (fun _ h9 => h9) rfl dX4_readPlaces_28 ?_
        refine lv_if_ne (tgt := 57) hx hb dX4_readPlaces_31 (by decide) (fun hc => ?_) (fun hc => ?_)
        · have hf := hf.1 hc
          exact hK0 _ _ _ _ _ _ _ _ _ _ _ _ _ hf hP hD hS (lv_sub hl [] rfl)
        · have hf := hf.2 hc
          refine lv_aload_n hx hb dX4_readPlaces_34 rfl (lv_at hl 0 rfl) ?_
          refine va_get (D := D) (ci := 4) (v := .int t_kind) (C := RX4) (T := TX4) (N := 10) hx hb hts hinX4 hown hK hP 0 rfl rfl 5 (by decide) k38 (fun _ h9 => h9) rfl dX4_readPlaces_35 ?_
          refine lv_iconst (v := (2 : Int32)) hx hb dX4_readPlaces_38 (by decide) ?_
          refine lv_icmp_ne (tgt := 57) hx hb dX4_readPlaces_39 (by decide) (fun hc => ?_) (fun hc => ?_)
          · have hf := hf.1 hc
            exact hK0 _ _ _ _ _ _ _ _ _ _ _ _ _ hf hP hD hS (lv_sub hl [] rfl)
          · have hf := hf.2 hc
            refine lv_aload_n hx hb dX4_readPlaces_42 rfl (lv_at hl 0 rfl) ?_
            refine lv_iload_n hx hb dX4_readPlaces_43 rfl (lv_at hl 1 rfl) ?_
            have hPc := hP.sub (ws' := (wd_X4_readCall cI cZ cB cG q_t q_t_game q_t_game_calls q_t_text q_t_game_from q_t_game_to q_t_game_heard t_error t_errorAt t_length t_kind t_start t_end t_value t_laid t_game_places t_game_odd t_game_moves t_game_token t_game_made t_game_calls)) [0, 1, 3] rfl
            have hDc := hD.sub (ws' := (wd_X4_readCall cI cZ cB cG q_t q_t_game q_t_game_calls q_t_text q_t_game_from q_t_game_to q_t_game_heard t_error t_errorAt t_length t_kind t_start t_end t_value t_laid t_game_places t_game_odd t_game_moves t_game_token t_game_made t_game_calls)) [0, 1, 3] (by decide +kernel) rfl
            have hFc := va_free (wc := (wd_X4_readCall cI cZ cB cG q_t q_t_game q_t_game_calls q_t_text q_t_game_from q_t_game_to q_t_game_heard t_error t_errorAt t_length t_kind t_start t_end t_value t_laid t_game_places t_game_odd t_game_moves t_game_token t_game_made t_game_calls)) hD hS hA [0, 1, 3] rfl
            refine va_callv (va_runV (As := [.int v1]) (rest := []) ⟨hx, hb, hml, hown, hts⟩ (c_X4_readCall l D X cI cZ cB cG H.size q_t q_t_game q_t_game_calls q_t_text q_t_game_from q_t_game_to q_t_game_heard v1 t_error t_errorAt t_length t_kind t_start t_end t_value t_laid t_game_places t_game_odd t_game_moves t_game_token t_game_made t_game_calls _ hf) (cwV 1 hts gX4_readPlaces_X4_readCall rfl rfl rfl (by decide +kernel) ⟨Nat.le_of_ble_eq_true rfl, Nat.le_of_ble_eq_true rfl⟩) ⟨g_blind, va_recv hK hPc (ci := 4) (q0 := 0) rfl rfl, fun U hU hW => g_side hU hW hPc hK hDc hE hS hFc⟩ rfl rfl hl.1 rfl (lv_room (Nat.le_of_ble_eq_true rfl)) dX4_readPlaces_44 ⟨Nat.zero_le _, Nat.zero_le _⟩) hS (fun q _ h => hFc q h) hFc (fun u t H1 locs ht hvm hw hB hz1 hk1 hS => ?_)
            obtain ⟨t_error_5, t_errorAt_6, t_game_places_7, t_game_odd_8, t_game_calls_9⟩ := u
            obtain ⟨hP1, hK1, hD1⟩ := hB
            rw [ht] at hP1
            obtain ⟨hP, hD⟩ := g_back (wc := (wd_X4_readCall cI cZ cB cG q_t q_t_game q_t_game_calls q_t_text q_t_game_from q_t_game_to q_t_game_heard t_error t_errorAt t_length t_kind t_start t_end t_value t_laid t_game_places t_game_odd t_game_moves t_game_token t_game_made t_game_calls)) (w1 := (wd_X4_readCall cI cZ cB cG q_t q_t_game q_t_game_calls q_t_text q_t_game_from q_t_game_to q_t_game_heard t_error_5 t_errorAt_6 t_length t_kind t_start t_end t_value t_laid t_game_places_7 t_game_odd_8 t_game_moves t_game_token t_game_made t_game_calls_9)) hP hD [0, 1, 3] rfl rfl hk1 hP1
            have hP : va_P D vwCl (wd_X4_readPlaces cI cZ cB cG q_t q_t_game q_t_text q_t_game_calls q_t_game_from q_t_game_to q_t_game_heard t_error_5 t_errorAt_6 t_length t_kind t_start t_end t_value t_laid t_game_places_7 t_game_odd_8 t_game_moves t_game_token t_game_made t_text t_game_calls_9) H1 := hP
            have hD : va_D A (wd_X4_readPlaces cI cZ cB cG q_t q_t_game q_t_text q_t_game_calls q_t_game_from q_t_game_to q_t_game_heard t_error_5 t_errorAt_6 t_length t_kind t_start t_end t_value t_laid t_game_places_7 t_game_odd_8 t_game_moves t_game_token t_game_made t_text t_game_calls_9) := hD
            have hf := hw
            generalize H1 = H at hP hS ⊢
            refine lv_aload_n hx hb dX4_readPlaces_47 rfl (lv_at hl 0 rfl) ?_
            have hPc := hP.sub (ws' := (wd_X4_advance cI cZ cB cG q_t q_t_text q_t_game t_error_5 t_errorAt_6 t_length t_kind t_start t_end t_value t_laid t_text)) [0, 2] rfl
            have hDc := hD.sub (ws' := (wd_X4_advance cI cZ cB cG q_t q_t_text q_t_game t_error_5 t_errorAt_6 t_length t_kind t_start t_end t_value t_laid t_text)) [0, 2] (by decide +kernel) rfl
            have hFc := va_free (wc := (wd_X4_advance cI cZ cB cG q_t q_t_text q_t_game t_error_5 t_errorAt_6 t_length t_kind t_start t_end t_value t_laid t_text)) hD hS hA [0, 2] rfl
            refine va_callv (va_runV (As := []) (rest := []) ⟨hx, hb, hml, hown, hts⟩ (c_X4_advance l D X cI cZ cB cG H.size q_t q_t_text q_t_game t_error_5 t_errorAt_6 t_length t_kind t_start t_end t_value t_laid t_text _ hf) (cwV 0 hts gX4_readPlaces_X4_advance rfl rfl rfl (by decide +kernel) ⟨Nat.le_of_ble_eq_true rfl, Nat.le_of_ble_eq_true rfl⟩) ⟨g_blind, va_recv hK hPc (ci := 4) (q0 := 0) rfl rfl, fun U hU hW => g_side hU hW hPc hK hDc hE hS hFc⟩ rfl rfl hl.1 rfl (lv_room (Nat.le_of_ble_eq_true rfl)) dX4_readPlaces_48 ⟨Nat.zero_le _, Nat.zero_le _⟩) hS (fun q _ h => hFc q h) hFc (fun u t H1 locs ht hvm hw hB hz1 hk1 hS => ?_)
            obtain ⟨t_kind_10, t_start_11, t_end_12, t_value_13⟩ := u
            obtain ⟨hP1, hK1, hD1⟩ := hB
            rw [ht] at hP1
            obtain ⟨hP, hD⟩ := g_back (wc := (wd_X4_advance cI cZ cB cG q_t q_t_text q_t_game t_error_5 t_errorAt_6 t_length t_kind t_start t_end t_value t_laid t_text)) (w1 := (wd_X4_advance cI cZ cB cG q_t q_t_text q_t_game t_error_5 t_errorAt_6 t_length t_kind_10 t_start_11 t_end_12 t_value_13 t_laid t_text)) hP hD [0, 2] rfl rfl hk1 hP1
            have hP : va_P D vwCl (wd_X4_readPlaces cI cZ cB cG q_t q_t_game q_t_text q_t_game_calls q_t_game_from q_t_game_to q_t_game_heard t_error_5 t_errorAt_6 t_length t_kind_10 t_start_11 t_end_12 t_value_13 t_laid t_game_places_7 t_game_odd_8 t_game_moves t_game_token t_game_made t_text t_game_calls_9) H1 := hP
            have hD : va_D A (wd_X4_readPlaces cI cZ cB cG q_t q_t_game q_t_text q_t_game_calls q_t_game_from q_t_game_to q_t_game_heard t_error_5 t_errorAt_6 t_length t_kind_10 t_start_11 t_end_12 t_value_13 t_laid t_game_places_7 t_game_odd_8 t_game_moves t_game_token t_game_made t_text t_game_calls_9) := hD
            have hf := hw
            generalize H1 = H at hP hS ⊢
            refine lv_iinc (v := (v2 + (1 : Int32))) (lv' := [(2, .int ((v2 + (1 : Int32)))), (0, .ref q_t), (1, .int v1)]) hx hb dX4_readPlaces_51 hl (k := 2) rfl rfl (by decide) rfl (fun ls hl => ?_)
            refine lv_goto (tgt := 19) hx hb dX4_readPlaces_54 (by decide) ?_
            exact ih _ _ _ _ _ _ _ _ _ _ _ _ _ hf hP hD hS (lv_sub hl [1, 2, 0] rfl)
  unfold wp_X4_readPlaces at hf
  refine lv_aload_n hx hb dX4_readPlaces_0 rfl (lv_at hl 0 rfl) ?_
  have hPc := hP.sub (ws' := (wd_X4_advance cI cZ cB cG q_t q_t_text q_t_game t_error t_errorAt t_length t_kind t_start t_end t_value t_laid t_text)) [0, 2] rfl
  have hDc := hD.sub (ws' := (wd_X4_advance cI cZ cB cG q_t q_t_text q_t_game t_error t_errorAt t_length t_kind t_start t_end t_value t_laid t_text)) [0, 2] (by decide +kernel) rfl
  have hFc := va_free (wc := (wd_X4_advance cI cZ cB cG q_t q_t_text q_t_game t_error t_errorAt t_length t_kind t_start t_end t_value t_laid t_text)) hD hS hA [0, 2] rfl
  refine va_callv (va_runV (As := []) (rest := []) ⟨hx, hb, hml, hown, hts⟩ (c_X4_advance l D X cI cZ cB cG H.size q_t q_t_text q_t_game t_error t_errorAt t_length t_kind t_start t_end t_value t_laid t_text _ hf) (cwV 0 hts gX4_readPlaces_X4_advance rfl rfl rfl (by decide +kernel) ⟨Nat.le_of_ble_eq_true rfl, Nat.le_of_ble_eq_true rfl⟩) ⟨g_blind, va_recv hK hPc (ci := 4) (q0 := 0) rfl rfl, fun U hU hW => g_side hU hW hPc hK hDc hE hS hFc⟩ rfl rfl hl.1 rfl (lv_room (Nat.le_of_ble_eq_true rfl)) dX4_readPlaces_1 ⟨Nat.zero_le _, Nat.zero_le _⟩) hS (fun q _ h => hFc q h) hFc (fun u t H1 locs ht hvm hw hB hz1 hk1 hS => ?_)
  obtain ⟨t_kind_1, t_start_2, t_end_3, t_value_4⟩ := u
  obtain ⟨hP1, hK1, hD1⟩ := hB
  rw [ht] at hP1
  obtain ⟨hP, hD⟩ := g_back (wc := (wd_X4_advance cI cZ cB cG q_t q_t_text q_t_game t_error t_errorAt t_length t_kind t_start t_end t_value t_laid t_text)) (w1 := (wd_X4_advance cI cZ cB cG q_t q_t_text q_t_game t_error t_errorAt t_length t_kind_1 t_start_2 t_end_3 t_value_4 t_laid t_text)) hP hD [0, 2] rfl rfl hk1 hP1
  have hP : va_P D vwCl (wd_X4_readPlaces cI cZ cB cG q_t q_t_game q_t_text q_t_game_calls q_t_game_from q_t_game_to q_t_game_heard t_error t_errorAt t_length t_kind_1 t_start_2 t_end_3 t_value_4 t_laid t_game_places t_game_odd t_game_moves t_game_token t_game_made t_text t_game_calls) H1 := hP
  have hD : va_D A (wd_X4_readPlaces cI cZ cB cG q_t q_t_game q_t_text q_t_game_calls q_t_game_from q_t_game_to q_t_game_heard t_error t_errorAt t_length t_kind_1 t_start_2 t_end_3 t_value_4 t_laid t_game_places t_game_odd t_game_moves t_game_token t_game_made t_text t_game_calls) := hD
  have hf := hw
  generalize H1 = H at hP hS ⊢
  refine lv_aload_n hx hb dX4_readPlaces_4 rfl (lv_at hl 0 rfl) ?_
  refine va_get (D := D) (ci := 4) (v := .int t_kind_1) (C := RX4) (T := TX4) (N := 10) hx hb hts hinX4 hown hK hP 0 rfl rfl 5 (by decide) k38 (fun _ h9 => h9) rfl dX4_readPlaces_5 ?_
  refine lv_iconst (v := (2 : Int32)) hx hb dX4_readPlaces_8 (by decide) ?_
  refine lv_icmp_eq (tgt := 17) hx hb dX4_readPlaces_9 (by decide) (fun hc => ?_) (fun hc => ?_)
  · have hf := hf.1 hc
    refine lv_iconst (v := (0 : Int32)) hx hb dX4_readPlaces_17 (by decide) ?_
    refine lv_istore_n (lv' := [(2, .int (0 : Int32)), (0, .ref q_t), (1, .int a1)]) hx hb dX4_readPlaces_18 rfl hl (by decide) rfl (fun ls hl => ?_)
    obtain ⟨n, hf⟩ := hf
    refine L19 a1 _ ?_  n _ _ _ _ _ _ _ _ _ _ _ _ _ hf hP hD hS (lv_sub hl [1, 2, 0] rfl)
    intro v2_14 t_error_15 t_errorAt_16 t_kind_17 t_start_18 t_end_19 t_value_20 t_game_places_21 t_game_odd_22 t_game_calls_23 H locs ls hf hP hD hS hl
    exact hret (t_error_15, t_errorAt_16, t_kind_17, t_start_18, t_end_19, t_value_20, t_game_places_21, t_game_odd_22, t_game_calls_23) hf hP hD hS dX4_readPlaces_57
  · have hf := hf.2 hc
    refine lv_aload_n hx hb dX4_readPlaces_12 rfl (lv_at hl 0 rfl) ?_
    refine lv_iconst (v := (1 : Int32)) hx hb dX4_readPlaces_13 (by decide) ?_
    have hPc := hP.sub (ws' := (wd_X4_fail cI cZ cB cG q_t q_t_text q_t_game t_error t_errorAt t_length t_kind_1 t_start_2 t_end_3 t_value_4 t_laid)) [0] rfl
    have hDc := hD.sub (ws' := (wd_X4_fail cI cZ cB cG q_t q_t_text q_t_game t_error t_errorAt t_length t_kind_1 t_start_2 t_end_3 t_value_4 t_laid)) [0] (by decide +kernel) rfl
    have hFc := va_free (wc := (wd_X4_fail cI cZ cB cG q_t q_t_text q_t_game t_error t_errorAt t_length t_kind_1 t_start_2 t_end_3 t_value_4 t_laid)) hD hS hA [0] rfl
    refine va_callv (va_runV (As := [.int (1 : Int32)]) (rest := []) ⟨hx, hb, hml, hown, hts⟩ (c_X4_fail l D X cI cZ cB cG H.size q_t q_t_text q_t_game (1 : Int32) t_error t_errorAt t_length t_kind_1 t_start_2 t_end_3 t_value_4 t_laid _ hf) (cwV 1 hts gX4_readPlaces_X4_fail rfl rfl rfl (by decide +kernel) ⟨Nat.le_of_ble_eq_true rfl, Nat.le_of_ble_eq_true rfl⟩) ⟨g_blind, va_recv hK hPc (ci := 4) (q0 := 0) rfl rfl, fun U hU hW => g_side hU hW hPc hK hDc hE hS hFc⟩ rfl rfl hl.1 rfl (lv_room (Nat.le_of_ble_eq_true rfl)) dX4_readPlaces_14 ⟨Nat.zero_le _, Nat.zero_le _⟩) hS (fun q _ h => hFc q h) hFc (fun u t H1 locs ht hvm hw hB hz1 hk1 hS => ?_)
    obtain ⟨t_error_24, t_errorAt_25⟩ := u
    obtain ⟨hP1, hK1, hD1⟩ := hB
    rw [ht] at hP1
    obtain ⟨hP, hD⟩ := g_back (wc := (wd_X4_fail cI cZ cB cG q_t q_t_text q_t_game t_error t_errorAt t_length t_kind_1 t_start_2 t_end_3 t_value_4 t_laid)) (w1 := (wd_X4_fail cI cZ cB cG q_t q_t_text q_t_game t_error_24 t_errorAt_25 t_length t_kind_1 t_start_2 t_end_3 t_value_4 t_laid)) hP hD [0] rfl rfl hk1 hP1
    have hP : va_P D vwCl (wd_X4_readPlaces cI cZ cB cG q_t q_t_game q_t_text q_t_game_calls q_t_game_from q_t_game_to q_t_game_heard t_error_24 t_errorAt_25 t_length t_kind_1 t_start_2 t_end_3 t_value_4 t_laid t_game_places t_game_odd t_game_moves t_game_token t_game_made t_text t_game_calls) H1 := hP
    have hD : va_D A (wd_X4_readPlaces cI cZ cB cG q_t q_t_game q_t_text q_t_game_calls q_t_game_from q_t_game_to q_t_game_heard t_error_24 t_errorAt_25 t_length t_kind_1 t_start_2 t_end_3 t_value_4 t_laid t_game_places t_game_odd t_game_moves t_game_token t_game_made t_text t_game_calls) := hD
    have hf := hw
    generalize H1 = H at hP hS ⊢
    refine lv_iconst (v := (0 : Int32)) hx hb dX4_readPlaces_17 (by decide) ?_
    refine lv_istore_n (lv' := [(2, .int (0 : Int32)), (0, .ref q_t), (1, .int a1)]) hx hb dX4_readPlaces_18 rfl hl (by decide) rfl (fun ls hl => ?_)
    obtain ⟨n, hf⟩ := hf
    refine L19 a1 _ ?_  n _ _ _ _ _ _ _ _ _ _ _ _ _ hf hP hD hS (lv_sub hl [1, 2, 0] rfl)
    intro v2_26 t_error_27 t_errorAt_28 t_kind_29 t_start_30 t_end_31 t_value_32 t_game_places_33 t_game_odd_34 t_game_calls_35 H locs ls hf hP hD hS hl
    exact hret (t_error_27, t_errorAt_28, t_kind_29, t_start_30, t_end_31, t_value_32, t_game_places_33, t_game_odd_34, t_game_calls_35) hf hP hD hS dX4_readPlaces_57
abbrev wd_X4_needPlaceNumber (cI cZ cB cG : ClassId) (q_t : Nat) (q_t_game : Nat) (q_t_text : Nat) (q_t_game_calls : Nat) (q_t_game_from : Nat) (q_t_game_to : Nat) (q_t_game_heard : Nat) (t_error : Int32) (t_errorAt : Int32) (t_length : Int32) (t_kind : Int32) (t_start : Int32) (t_end : Int32) (t_value : Int32) (t_laid : Int32) (t_game_places : Int32) (t_game_odd : Int32) (t_game_moves : Int32) (t_game_token : Int32) (t_game_made : Int32) : va_W := [(q_t, .inr (4, [.ref q_t_text, .ref q_t_game, .int t_error, .int t_errorAt, .int t_length, .int t_kind, .int t_start, .int t_end, .int t_value, .int t_laid])), (q_t_game, .inr (1, [.int t_game_places, .int t_game_odd, .ref q_t_game_calls, .int t_game_moves, .ref q_t_game_from, .ref q_t_game_to, .int t_game_token, .int t_game_made, .ref q_t_game_heard]))]
def wp_X4_needPlaceNumber (t_error : Int32) (t_errorAt : Int32) (t_kind : Int32) (t_start : Int32) (t_value : Int32) (t_game_places : Int32) (post : Int32 → Int32 → Prop) : Prop := ((t_kind = (2 : Int32) → (wp_X1_hasPlace t_value t_game_places (fun r_2 => ((¬ r_2 = (0 : Int32) → (post t_error t_errorAt)) ∧ (r_2 = (0 : Int32) → (wp_X4_fail (3 : Int32) t_error t_errorAt t_start (fun t_error_3 t_errorAt_4 => (post t_error_3 t_errorAt_4)))))))) ∧ (¬ (t_kind = (2 : Int32)) → (wp_X4_fail (1 : Int32) t_error t_errorAt t_start (fun t_error_5 t_errorAt_6 => (post t_error_5 t_errorAt_6)))))
abbrev rm_X4_needPlaceNumber : Room := { frames := 2, cells := 0, slots := 0, locals := 101 }
theorem in_X4_needPlaceNumber_X4 : ∀ w ∈ u_ws RX4 TX4 10, w ∈ wsX4_needPlaceNumber := by decide +kernel
theorem k_X4_needPlaceNumber_12 : Cond.fieldLink RX4 12 "ParityGame$Reader" "game" "LParityGame$Game;" ∈ wsX4_needPlaceNumber := by decide +kernel
theorem k_X4_needPlaceNumber_38 : Cond.fieldLink RX4 38 "ParityGame$Reader" "kind" "I" ∈ wsX4_needPlaceNumber := by decide +kernel
theorem k_X4_needPlaceNumber_94 : Cond.fieldLink RX4 94 "ParityGame$Reader" "value" "I" ∈ wsX4_needPlaceNumber := by decide +kernel
set_option maxHeartbeats 40000000 in
set_option maxRecDepth 100000 in
theorem c_X4_needPlaceNumber (l : Launch) (D : va_G) (X : gX) (cI cZ cB cG : ClassId) (sz : Nat) (q_t : Nat) (q_t_game : Nat) (q_t_text : Nat) (q_t_game_calls : Nat) (q_t_game_from : Nat) (q_t_game_to : Nat) (q_t_game_heard : Nat) (t_error : Int32) (t_errorAt : Int32) (t_length : Int32) (t_kind : Int32) (t_start : Int32) (t_end : Int32) (t_value : Int32) (t_laid : Int32) (t_game_places : Int32) (t_game_odd : Int32) (t_game_moves : Int32) (t_game_token : Int32) (t_game_made : Int32) (post : Int32 → Int32 → Prop) (hf : wp_X4_needPlaceNumber t_error t_errorAt t_kind t_start t_value t_game_places post) : Met l yX4_needPlaceNumber wsX4_needPlaceNumber rm_X4_needPlaceNumber (gP D X (gT cI cZ cB cG) sz [.ref q_t] (wd_X4_needPlaceNumber cI cZ cB cG q_t q_t_game q_t_text q_t_game_calls q_t_game_from q_t_game_to q_t_game_heard t_error t_errorAt t_length t_kind t_start t_end t_value t_laid t_game_places t_game_odd t_game_moves t_game_token t_game_made)) (va_Qv (fun (u : Int32 × Int32) => post u.1 u.2) (fun u t => gB D (gT cI cZ cB cG) (va_A (wd_X4_needPlaceNumber cI cZ cB cG q_t q_t_game q_t_text q_t_game_calls q_t_game_from q_t_game_to q_t_game_heard t_error t_errorAt t_length t_kind t_start t_end t_value t_laid t_game_places t_game_odd t_game_moves t_game_token t_game_made) sz) (wd_X4_needPlaceNumber cI cZ cB cG q_t q_t_game q_t_text q_t_game_calls q_t_game_from q_t_game_to q_t_game_heard u.1 u.2 t_length t_kind t_start t_end t_value t_laid t_game_places t_game_odd t_game_moves t_game_token t_game_made) t) (va_A (wd_X4_needPlaceNumber cI cZ cB cG q_t q_t_game q_t_text q_t_game_calls q_t_game_from q_t_game_to q_t_game_heard t_error t_errorAt t_length t_kind t_start t_end t_value t_laid t_game_places t_game_odd t_game_moves t_game_token t_game_made) sz)) 0 0 (va_A (wd_X4_needPlaceNumber cI cZ cB cG q_t q_t_game q_t_text q_t_game_calls q_t_game_from q_t_game_to q_t_game_heard t_error t_errorAt t_length t_kind t_start t_end t_value t_laid t_game_places t_game_odd t_game_moves t_game_token t_game_made) sz) := by
  refine g_ofWv (cc := cX4_needPlaceNumber) (maxL := 1) (by decide +kernel) (Nat.le_of_ble_eq_true rfl) rfl ?_
  intro p e s m args below meth c A Q hx hb hml hown hts hA hK hE H hP hD hS ls hl hret
  have hinX4 := in_X4_needPlaceNumber_X4
  have k12 := hts _ k_X4_needPlaceNumber_12
  have k38 := hts _ k_X4_needPlaceNumber_38
  have k94 := hts _ k_X4_needPlaceNumber_94
  have hl : lv_has ls 1 [(0, .ref q_t)] := hl
  unfold wp_X4_needPlaceNumber at hf
  refine lv_aload_n hx hb dX4_needPlaceNumber_0 rfl (lv_at hl 0 rfl) ?_
  refine va_get (D := D) (ci := 4) (v := .int t_kind) (C := RX4) (T := TX4) (N := 10) hx hb hts hinX4 hown hK hP 0 rfl rfl 5 (by decide) k38 (fun _ h9 => h9) rfl dX4_needPlaceNumber_1 ?_
  refine lv_iconst (v := (2 : Int32)) hx hb dX4_needPlaceNumber_4 (by decide) ?_
  refine lv_icmp_eq (tgt := 16) hx hb dX4_needPlaceNumber_5 (by decide) (fun hc => ?_) (fun hc => ?_)
  · have hf := hf.1 hc
    refine lv_aload_n hx hb dX4_needPlaceNumber_16 rfl (lv_at hl 0 rfl) ?_
    refine va_get (D := D) (ci := 4) (v := .ref q_t_game) (C := RX4) (T := TX4) (N := 10) hx hb hts hinX4 hown hK hP 0 rfl rfl 1 (by decide) k12 (fun _ h9 => h9) rfl dX4_needPlaceNumber_17 ?_
    refine lv_aload_n hx hb dX4_needPlaceNumber_20 rfl (lv_at hl 0 rfl) ?_
    refine va_get (D := D) (ci := 4) (v := .int t_value) (C := RX4) (T := TX4) (N := 10) hx hb hts hinX4 hown hK hP 0 rfl rfl 8 (by decide) k94 (fun _ h9 => h9) rfl dX4_needPlaceNumber_21 ?_
    have hPc := hP.sub (ws' := (wd_X1_hasPlace cI cZ cB cG q_t_game q_t_game_calls q_t_game_from q_t_game_to q_t_game_heard t_game_places t_game_odd t_game_moves t_game_token t_game_made)) [1] rfl
    have hDc := hD.sub (ws' := (wd_X1_hasPlace cI cZ cB cG q_t_game q_t_game_calls q_t_game_from q_t_game_to q_t_game_heard t_game_places t_game_odd t_game_moves t_game_token t_game_made)) [1] (by decide +kernel) rfl
    have hFc := va_free (wc := (wd_X1_hasPlace cI cZ cB cG q_t_game q_t_game_calls q_t_game_from q_t_game_to q_t_game_heard t_game_places t_game_odd t_game_moves t_game_token t_game_made)) hD hS hA [1] rfl
    refine va_calli (va_runV (As := [.int t_value]) (rest := []) ⟨hx, hb, hml, hown, hts⟩ (c_X1_hasPlace l D X cI cZ cB cG H.size q_t_game q_t_game_calls q_t_game_from q_t_game_to q_t_game_heard t_value t_game_places t_game_odd t_game_moves t_game_token t_game_made _ hf) (cwV 1 hts gX4_needPlaceNumber_X1_hasPlace rfl rfl rfl (by decide +kernel) ⟨Nat.le_of_ble_eq_true rfl, Nat.le_of_ble_eq_true rfl⟩) ⟨g_blind, va_recv hK hPc (ci := 1) (q0 := 0) rfl rfl, fun U hU hW => g_side hU hW hPc hK hDc hE hS hFc⟩ rfl rfl hl.1 rfl (lv_room (Nat.le_of_ble_eq_true rfl)) dX4_needPlaceNumber_24 ⟨Nat.zero_le _, Nat.zero_le _⟩) hS (fun q _ h => hFc q h) hFc (fun r_2 u t H1 locs ht hvm hw hB hz1 hk1 hS => ?_)
    obtain ⟨hP1, hK1, hD1⟩ := hB
    rw [ht] at hP1
    obtain ⟨hP, hD⟩ := g_back (wc := (wd_X1_hasPlace cI cZ cB cG q_t_game q_t_game_calls q_t_game_from q_t_game_to q_t_game_heard t_game_places t_game_odd t_game_moves t_game_token t_game_made)) (w1 := (wd_X1_hasPlace cI cZ cB cG q_t_game q_t_game_calls q_t_game_from q_t_game_to q_t_game_heard t_game_places t_game_odd t_game_moves t_game_token t_game_made)) hP hD [1] rfl rfl hk1 hP1
    have hP : va_P D vwCl (wd_X4_needPlaceNumber cI cZ cB cG q_t q_t_game q_t_text q_t_game_calls q_t_game_from q_t_game_to q_t_game_heard t_error t_errorAt t_length t_kind t_start t_end t_value t_laid t_game_places t_game_odd t_game_moves t_game_token t_game_made) H1 := hP
    have hD : va_D A (wd_X4_needPlaceNumber cI cZ cB cG q_t q_t_game q_t_text q_t_game_calls q_t_game_from q_t_game_to q_t_game_heard t_error t_errorAt t_length t_kind t_start t_end t_value t_laid t_game_places t_game_odd t_game_moves t_game_token t_game_made) := hD
    obtain ⟨hn_r_2, hw⟩ := hw
    have hf := hw
    generalize H1 = H at hP hS ⊢
    refine lv_if_ne (tgt := 35) hx hb dX4_needPlaceNumber_27 (by decide) (fun hc => ?_) (fun hc => ?_)
    · have hf := hf.1 hc
      exact hret (t_error, t_errorAt) hf hP hD hS dX4_needPlaceNumber_35
    · have hf := hf.2 hc
      refine lv_aload_n hx hb dX4_needPlaceNumber_30 rfl (lv_at hl 0 rfl) ?_
      refine lv_iconst (v := (3 : Int32)) hx hb dX4_needPlaceNumber_31 (by decide) ?_
      have hPc := hP.sub (ws' := (wd_X4_fail cI cZ cB cG q_t q_t_text q_t_game t_error t_errorAt t_length t_kind t_start t_end t_value t_laid)) [0] rfl
      have hDc := hD.sub (ws' := (wd_X4_fail cI cZ cB cG q_t q_t_text q_t_game t_error t_errorAt t_length t_kind t_start t_end t_value t_laid)) [0] (by decide +kernel) rfl
      have hFc := va_free (wc := (wd_X4_fail cI cZ cB cG q_t q_t_text q_t_game t_error t_errorAt t_length t_kind t_start t_end t_value t_laid)) hD hS hA [0] rfl
      refine va_callv (va_runV (As := [.int (3 : Int32)]) (rest := []) ⟨hx, hb, hml, hown, hts⟩ (c_X4_fail l D X cI cZ cB cG H.size q_t q_t_text q_t_game (3 : Int32) t_error t_errorAt t_length t_kind t_start t_end t_value t_laid _ hf) (cwV 1 hts gX4_needPlaceNumber_X4_fail rfl rfl rfl (by decide +kernel) ⟨Nat.le_of_ble_eq_true rfl, Nat.le_of_ble_eq_true rfl⟩) ⟨g_blind, va_recv hK hPc (ci := 4) (q0 := 0) rfl rfl, fun U hU hW => g_side hU hW hPc hK hDc hE hS hFc⟩ rfl rfl hl.1 rfl (lv_room (Nat.le_of_ble_eq_true rfl)) dX4_needPlaceNumber_32 ⟨Nat.zero_le _, Nat.zero_le _⟩) hS (fun q _ h => hFc q h) hFc (fun u t H1 locs ht hvm hw hB hz1 hk1 hS => ?_)
      obtain ⟨t_error_3, t_errorAt_4⟩ := u
      obtain ⟨hP1, hK1, hD1⟩ := hB
      rw [ht] at hP1
      obtain ⟨hP, hD⟩ := g_back (wc := (wd_X4_fail cI cZ cB cG q_t q_t_text q_t_game t_error t_errorAt t_length t_kind t_start t_end t_value t_laid)) (w1 := (wd_X4_fail cI cZ cB cG q_t q_t_text q_t_game t_error_3 t_errorAt_4 t_length t_kind t_start t_end t_value t_laid)) hP hD [0] rfl rfl hk1 hP1
      have hP : va_P D vwCl (wd_X4_needPlaceNumber cI cZ cB cG q_t q_t_game q_t_text q_t_game_calls q_t_game_from q_t_game_to q_t_game_heard t_error_3 t_errorAt_4 t_length t_kind t_start t_end t_value t_laid t_game_places t_game_odd t_game_moves t_game_token t_game_made) H1 := hP
      have hD : va_D A (wd_X4_needPlaceNumber cI cZ cB cG q_t q_t_game q_t_text q_t_game_calls q_t_game_from q_t_game_to q_t_game_heard t_error_3 t_errorAt_4 t_length t_kind t_start t_end t_value t_laid t_game_places t_game_odd t_game_moves t_game_token t_game_made) := hD
      have hf := hw
      generalize H1 = H at hP hS ⊢
      exact hret (t_error_3, t_errorAt_4) hf hP hD hS dX4_needPlaceNumber_35
  · have hf := hf.2 hc
    refine lv_aload_n hx hb dX4_needPlaceNumber_8 rfl (lv_at hl 0 rfl) ?_
    refine lv_iconst (v := (1 : Int32)) hx hb dX4_needPlaceNumber_9 (by decide) ?_
    have hPc := hP.sub (ws' := (wd_X4_fail cI cZ cB cG q_t q_t_text q_t_game t_error t_errorAt t_length t_kind t_start t_end t_value t_laid)) [0] rfl
    have hDc := hD.sub (ws' := (wd_X4_fail cI cZ cB cG q_t q_t_text q_t_game t_error t_errorAt t_length t_kind t_start t_end t_value t_laid)) [0] (by decide +kernel) rfl
    have hFc := va_free (wc := (wd_X4_fail cI cZ cB cG q_t q_t_text q_t_game t_error t_errorAt t_length t_kind t_start t_end t_value t_laid)) hD hS hA [0] rfl
    refine va_callv (va_runV (As := [.int (1 : Int32)]) (rest := []) ⟨hx, hb, hml, hown, hts⟩ (c_X4_fail l D X cI cZ cB cG H.size q_t q_t_text q_t_game (1 : Int32) t_error t_errorAt t_length t_kind t_start t_end t_value t_laid _ hf) (cwV 1 hts gX4_needPlaceNumber_X4_fail rfl rfl rfl (by decide +kernel) ⟨Nat.le_of_ble_eq_true rfl, Nat.le_of_ble_eq_true rfl⟩) ⟨g_blind, va_recv hK hPc (ci := 4) (q0 := 0) rfl rfl, fun U hU hW => g_side hU hW hPc hK hDc hE hS hFc⟩ rfl rfl hl.1 rfl (lv_room (Nat.le_of_ble_eq_true rfl)) dX4_needPlaceNumber_10 ⟨Nat.zero_le _, Nat.zero_le _⟩) hS (fun q _ h => hFc q h) hFc (fun u t H1 locs ht hvm hw hB hz1 hk1 hS => ?_)
    obtain ⟨t_error_5, t_errorAt_6⟩ := u
    obtain ⟨hP1, hK1, hD1⟩ := hB
    rw [ht] at hP1
    obtain ⟨hP, hD⟩ := g_back (wc := (wd_X4_fail cI cZ cB cG q_t q_t_text q_t_game t_error t_errorAt t_length t_kind t_start t_end t_value t_laid)) (w1 := (wd_X4_fail cI cZ cB cG q_t q_t_text q_t_game t_error_5 t_errorAt_6 t_length t_kind t_start t_end t_value t_laid)) hP hD [0] rfl rfl hk1 hP1
    have hP : va_P D vwCl (wd_X4_needPlaceNumber cI cZ cB cG q_t q_t_game q_t_text q_t_game_calls q_t_game_from q_t_game_to q_t_game_heard t_error_5 t_errorAt_6 t_length t_kind t_start t_end t_value t_laid t_game_places t_game_odd t_game_moves t_game_token t_game_made) H1 := hP
    have hD : va_D A (wd_X4_needPlaceNumber cI cZ cB cG q_t q_t_game q_t_text q_t_game_calls q_t_game_from q_t_game_to q_t_game_heard t_error_5 t_errorAt_6 t_length t_kind t_start t_end t_value t_laid t_game_places t_game_odd t_game_moves t_game_token t_game_made) := hD
    have hf := hw
    generalize H1 = H at hP hS ⊢
    refine lv_goto (tgt := 35) hx hb dX4_needPlaceNumber_13 (by decide) ?_
    exact hret (t_error_5, t_errorAt_6) hf hP hD hS dX4_needPlaceNumber_35
abbrev wd_X4_readMoveTo (cI cZ cB cG : ClassId) (q_t : Nat) (q_t_game : Nat) (q_t_game_from : Nat) (q_t_game_to : Nat) (q_t_text : Nat) (q_t_game_calls : Nat) (q_t_game_heard : Nat) (t_error : Int32) (t_errorAt : Int32) (t_length : Int32) (t_kind : Int32) (t_start : Int32) (t_end : Int32) (t_value : Int32) (t_laid : Int32) (t_game_places : Int32) (t_game_odd : Int32) (t_game_moves : Int32) (t_game_token : Int32) (t_game_made : Int32) (t_game_from : (Nat → Int32)) (t_game_to : (Nat → Int32)) : va_W := [(q_t, .inr (4, [.ref q_t_text, .ref q_t_game, .int t_error, .int t_errorAt, .int t_length, .int t_kind, .int t_start, .int t_end, .int t_value, .int t_laid])), (q_t_game, .inr (1, [.int t_game_places, .int t_game_odd, .ref q_t_game_calls, .int t_game_moves, .ref q_t_game_from, .ref q_t_game_to, .int t_game_token, .int t_game_made, .ref q_t_game_heard])), (q_t_game_from, .inl (cI, 60, .inl t_game_from)), (q_t_game_to, .inl (cI, 60, .inl t_game_to))]
def wp_X4_readMoveTo (a1 : Int32) (t_error : Int32) (t_errorAt : Int32) (t_start : Int32) (t_value : Int32) (t_game_places : Int32) (t_game_moves : Int32) (t_game_from : (Nat → Int32)) (t_game_to : (Nat → Int32)) (post : Int32 → Int32 → Int32 → (Nat → Int32) → (Nat → Int32) → Prop) : Prop := (wp_X1_hasPlace t_value t_game_places (fun r_3 => ((¬ r_3 = (0 : Int32) → (wp_X1_findMove a1 t_value t_game_moves t_game_from t_game_to (fun r_4 => ((r_4 = (-1 : Int32) → ((t_game_moves < (60 : Int32) → (wp_X1_appendMove a1 t_value t_game_moves t_game_from t_game_to (fun t_game_moves_5 t_game_from_6 t_game_to_7 => (post t_error t_errorAt t_game_moves_5 t_game_from_6 t_game_to_7)))) ∧ (¬ (t_game_moves < (60 : Int32)) → (wp_X4_fail (5 : Int32) t_error t_errorAt t_start (fun t_error_8 t_errorAt_9 => (post t_error_8 t_errorAt_9 t_game_moves t_game_from t_game_to)))))) ∧ (¬ (r_4 = (-1 : Int32)) → (wp_X4_fail (4 : Int32) t_error t_errorAt t_start (fun t_error_10 t_errorAt_11 => (post t_error_10 t_errorAt_11 t_game_moves t_game_from t_game_to)))))))) ∧ (r_3 = (0 : Int32) → (wp_X4_fail (3 : Int32) t_error t_errorAt t_start (fun t_error_12 t_errorAt_13 => (post t_error_12 t_errorAt_13 t_game_moves t_game_from t_game_to)))))))
abbrev rm_X4_readMoveTo : Room := { frames := 2, cells := 0, slots := 0, locals := 103 }
theorem in_X4_readMoveTo_X1 : ∀ w ∈ u_ws RX1 TX1 9, w ∈ wsX4_readMoveTo := by decide +kernel
theorem in_X4_readMoveTo_X4 : ∀ w ∈ u_ws RX4 TX4 10, w ∈ wsX4_readMoveTo := by decide +kernel
theorem k_X4_readMoveTo_114 : Cond.fieldLink RX4 114 "ParityGame$Game" "moves" "I" ∈ wsX4_readMoveTo := by decide +kernel
theorem k_X4_readMoveTo_12 : Cond.fieldLink RX4 12 "ParityGame$Reader" "game" "LParityGame$Game;" ∈ wsX4_readMoveTo := by decide +kernel
theorem k_X4_readMoveTo_94 : Cond.fieldLink RX4 94 "ParityGame$Reader" "value" "I" ∈ wsX4_readMoveTo := by decide +kernel
set_option maxHeartbeats 40000000 in
set_option maxRecDepth 100000 in
theorem c_X4_readMoveTo (l : Launch) (D : va_G) (X : gX) (cI cZ cB cG : ClassId) (sz : Nat) (q_t : Nat) (q_t_game : Nat) (q_t_game_from : Nat) (q_t_game_to : Nat) (q_t_text : Nat) (q_t_game_calls : Nat) (q_t_game_heard : Nat) (a1 : Int32) (t_error : Int32) (t_errorAt : Int32) (t_length : Int32) (t_kind : Int32) (t_start : Int32) (t_end : Int32) (t_value : Int32) (t_laid : Int32) (t_game_places : Int32) (t_game_odd : Int32) (t_game_moves : Int32) (t_game_token : Int32) (t_game_made : Int32) (t_game_from : (Nat → Int32)) (t_game_to : (Nat → Int32)) (post : Int32 → Int32 → Int32 → (Nat → Int32) → (Nat → Int32) → Prop) (hf : wp_X4_readMoveTo a1 t_error t_errorAt t_start t_value t_game_places t_game_moves t_game_from t_game_to post) : Met l yX4_readMoveTo wsX4_readMoveTo rm_X4_readMoveTo (gP D X (gT cI cZ cB cG) sz [.ref q_t, .int a1] (wd_X4_readMoveTo cI cZ cB cG q_t q_t_game q_t_game_from q_t_game_to q_t_text q_t_game_calls q_t_game_heard t_error t_errorAt t_length t_kind t_start t_end t_value t_laid t_game_places t_game_odd t_game_moves t_game_token t_game_made t_game_from t_game_to)) (va_Qv (fun (u : Int32 × Int32 × Int32 × (Nat → Int32) × (Nat → Int32)) => post u.1 u.2.1 u.2.2.1 u.2.2.2.1 u.2.2.2.2) (fun u t => gB D (gT cI cZ cB cG) (va_A (wd_X4_readMoveTo cI cZ cB cG q_t q_t_game q_t_game_from q_t_game_to q_t_text q_t_game_calls q_t_game_heard t_error t_errorAt t_length t_kind t_start t_end t_value t_laid t_game_places t_game_odd t_game_moves t_game_token t_game_made t_game_from t_game_to) sz) (wd_X4_readMoveTo cI cZ cB cG q_t q_t_game q_t_game_from q_t_game_to q_t_text q_t_game_calls q_t_game_heard u.1 u.2.1 t_length t_kind t_start t_end t_value t_laid t_game_places t_game_odd u.2.2.1 t_game_token t_game_made u.2.2.2.1 u.2.2.2.2) t) (va_A (wd_X4_readMoveTo cI cZ cB cG q_t q_t_game q_t_game_from q_t_game_to q_t_text q_t_game_calls q_t_game_heard t_error t_errorAt t_length t_kind t_start t_end t_value t_laid t_game_places t_game_odd t_game_moves t_game_token t_game_made t_game_from t_game_to) sz)) 0 0 (va_A (wd_X4_readMoveTo cI cZ cB cG q_t q_t_game q_t_game_from q_t_game_to q_t_text q_t_game_calls q_t_game_heard t_error t_errorAt t_length t_kind t_start t_end t_value t_laid t_game_places t_game_odd t_game_moves t_game_token t_game_made t_game_from t_game_to) sz) := by
  refine g_ofWv (cc := cX4_readMoveTo) (maxL := 2) (by decide +kernel) (Nat.le_of_ble_eq_true rfl) rfl ?_
  intro p e s m args below meth c A Q hx hb hml hown hts hA hK hE H hP hD hS ls hl hret
  have hinX1 := in_X4_readMoveTo_X1
  have hinX4 := in_X4_readMoveTo_X4
  have k114 := hts _ k_X4_readMoveTo_114
  have k12 := hts _ k_X4_readMoveTo_12
  have k94 := hts _ k_X4_readMoveTo_94
  have hl : lv_has ls 2 [(0, .ref q_t), (1, .int a1)] := hl
  unfold wp_X4_readMoveTo at hf
  refine lv_aload_n hx hb dX4_readMoveTo_0 rfl (lv_at hl 0 rfl) ?_
  refine va_get (D := D) (ci := 4) (v := .ref q_t_game) (C := RX4) (T := TX4) (N := 10) hx hb hts hinX4 hown hK hP 0 rfl rfl 1 (by decide) k12 (fun _ h9 => h9) rfl dX4_readMoveTo_1 ?_
  refine lv_aload_n hx hb dX4_readMoveTo_4 rfl (lv_at hl 0 rfl) ?_
  refine va_get (D := D) (ci := 4) (v := .int t_value) (C := RX4) (T := TX4) (N := 10) hx hb hts hinX4 hown hK hP 0 rfl rfl 8 (by decide) k94 (fun _ h9 => h9) rfl dX4_readMoveTo_5 ?_
  have hPc := hP.sub (ws' := (wd_X1_hasPlace cI cZ cB cG q_t_game q_t_game_calls q_t_game_from q_t_game_to q_t_game_heard t_game_places t_game_odd t_game_moves t_game_token t_game_made)) [1] rfl
  have hDc := hD.sub (ws' := (wd_X1_hasPlace cI cZ cB cG q_t_game q_t_game_calls q_t_game_from q_t_game_to q_t_game_heard t_game_places t_game_odd t_game_moves t_game_token t_game_made)) [1] (by decide +kernel) rfl
  have hFc := va_free (wc := (wd_X1_hasPlace cI cZ cB cG q_t_game q_t_game_calls q_t_game_from q_t_game_to q_t_game_heard t_game_places t_game_odd t_game_moves t_game_token t_game_made)) hD hS hA [1] rfl
  refine va_calli (va_runV (As := [.int t_value]) (rest := []) ⟨hx, hb, hml, hown, hts⟩ (c_X1_hasPlace l D X cI cZ cB cG H.size q_t_game q_t_game_calls q_t_game_from q_t_game_to q_t_game_heard t_value t_game_places t_game_odd t_game_moves t_game_token t_game_made _ hf) (cwV 1 hts gX4_readMoveTo_X1_hasPlace rfl rfl rfl (by decide +kernel) ⟨Nat.le_of_ble_eq_true rfl, Nat.le_of_ble_eq_true rfl⟩) ⟨g_blind, va_recv hK hPc (ci := 1) (q0 := 0) rfl rfl, fun U hU hW => g_side hU hW hPc hK hDc hE hS hFc⟩ rfl rfl hl.1 rfl (lv_room (Nat.le_of_ble_eq_true rfl)) dX4_readMoveTo_8 ⟨Nat.zero_le _, Nat.zero_le _⟩) hS (fun q _ h => hFc q h) hFc (fun r_3 u t H1 locs ht hvm hw hB hz1 hk1 hS => ?_)
  obtain ⟨hP1, hK1, hD1⟩ := hB
  rw [ht] at hP1
  obtain ⟨hP, hD⟩ := g_back (wc := (wd_X1_hasPlace cI cZ cB cG q_t_game q_t_game_calls q_t_game_from q_t_game_to q_t_game_heard t_game_places t_game_odd t_game_moves t_game_token t_game_made)) (w1 := (wd_X1_hasPlace cI cZ cB cG q_t_game q_t_game_calls q_t_game_from q_t_game_to q_t_game_heard t_game_places t_game_odd t_game_moves t_game_token t_game_made)) hP hD [1] rfl rfl hk1 hP1
  have hP : va_P D vwCl (wd_X4_readMoveTo cI cZ cB cG q_t q_t_game q_t_game_from q_t_game_to q_t_text q_t_game_calls q_t_game_heard t_error t_errorAt t_length t_kind t_start t_end t_value t_laid t_game_places t_game_odd t_game_moves t_game_token t_game_made t_game_from t_game_to) H1 := hP
  have hD : va_D A (wd_X4_readMoveTo cI cZ cB cG q_t q_t_game q_t_game_from q_t_game_to q_t_text q_t_game_calls q_t_game_heard t_error t_errorAt t_length t_kind t_start t_end t_value t_laid t_game_places t_game_odd t_game_moves t_game_token t_game_made t_game_from t_game_to) := hD
  obtain ⟨hn_r_3, hw⟩ := hw
  have hf := hw
  generalize H1 = H at hP hS ⊢
  refine lv_if_ne (tgt := 22) hx hb dX4_readMoveTo_11 (by decide) (fun hc => ?_) (fun hc => ?_)
  · have hf := hf.1 hc
    refine lv_aload_n hx hb dX4_readMoveTo_22 rfl (lv_at hl 0 rfl) ?_
    refine va_get (D := D) (ci := 4) (v := .ref q_t_game) (C := RX4) (T := TX4) (N := 10) hx hb hts hinX4 hown hK hP 0 rfl rfl 1 (by decide) k12 (fun _ h9 => h9) rfl dX4_readMoveTo_23 ?_
    refine lv_iload_n hx hb dX4_readMoveTo_26 rfl (lv_at hl 1 rfl) ?_
    refine lv_aload_n hx hb dX4_readMoveTo_27 rfl (lv_at hl 0 rfl) ?_
    refine va_get (D := D) (ci := 4) (v := .int t_value) (C := RX4) (T := TX4) (N := 10) hx hb hts hinX4 hown hK hP 0 rfl rfl 8 (by decide) k94 (fun _ h9 => h9) rfl dX4_readMoveTo_28 ?_
    have hPc := hP.sub (ws' := (wd_X1_findMove cI cZ cB cG q_t_game q_t_game_from q_t_game_to q_t_game_calls q_t_game_heard t_game_places t_game_odd t_game_moves t_game_token t_game_made t_game_from t_game_to)) [1, 2, 3] rfl
    have hDc := hD.sub (ws' := (wd_X1_findMove cI cZ cB cG q_t_game q_t_game_from q_t_game_to q_t_game_calls q_t_game_heard t_game_places t_game_odd t_game_moves t_game_token t_game_made t_game_from t_game_to)) [1, 2, 3] (by decide +kernel) rfl
    have hFc := va_free (wc := (wd_X1_findMove cI cZ cB cG q_t_game q_t_game_from q_t_game_to q_t_game_calls q_t_game_heard t_game_places t_game_odd t_game_moves t_game_token t_game_made t_game_from t_game_to)) hD hS hA [1, 2, 3] rfl
    refine va_calli (va_runV (As := [.int a1, .int t_value]) (rest := []) ⟨hx, hb, hml, hown, hts⟩ (c_X1_findMove l D X cI cZ cB cG H.size q_t_game q_t_game_from q_t_game_to q_t_game_calls q_t_game_heard a1 t_value t_game_places t_game_odd t_game_moves t_game_token t_game_made t_game_from t_game_to _ hf) (cwV 2 hts gX4_readMoveTo_X1_findMove rfl rfl rfl (by decide +kernel) ⟨Nat.le_of_ble_eq_true rfl, Nat.le_of_ble_eq_true rfl⟩) ⟨g_blind, va_recv hK hPc (ci := 1) (q0 := 0) rfl rfl, fun U hU hW => g_side hU hW hPc hK hDc hE hS hFc⟩ rfl rfl hl.1 rfl (lv_room (Nat.le_of_ble_eq_true rfl)) dX4_readMoveTo_31 ⟨Nat.zero_le _, Nat.zero_le _⟩) hS (fun q _ h => hFc q h) hFc (fun r_4 u t H1 locs ht hvm hw hB hz1 hk1 hS => ?_)
    obtain ⟨hP1, hK1, hD1⟩ := hB
    rw [ht] at hP1
    obtain ⟨hP, hD⟩ := g_back (wc := (wd_X1_findMove cI cZ cB cG q_t_game q_t_game_from q_t_game_to q_t_game_calls q_t_game_heard t_game_places t_game_odd t_game_moves t_game_token t_game_made t_game_from t_game_to)) (w1 := (wd_X1_findMove cI cZ cB cG q_t_game q_t_game_from q_t_game_to q_t_game_calls q_t_game_heard t_game_places t_game_odd t_game_moves t_game_token t_game_made t_game_from t_game_to)) hP hD [1, 2, 3] rfl rfl hk1 hP1
    have hP : va_P D vwCl (wd_X4_readMoveTo cI cZ cB cG q_t q_t_game q_t_game_from q_t_game_to q_t_text q_t_game_calls q_t_game_heard t_error t_errorAt t_length t_kind t_start t_end t_value t_laid t_game_places t_game_odd t_game_moves t_game_token t_game_made t_game_from t_game_to) H1 := hP
    have hD : va_D A (wd_X4_readMoveTo cI cZ cB cG q_t q_t_game q_t_game_from q_t_game_to q_t_text q_t_game_calls q_t_game_heard t_error t_errorAt t_length t_kind t_start t_end t_value t_laid t_game_places t_game_odd t_game_moves t_game_token t_game_made t_game_from t_game_to) := hD
    have hf := hw
    generalize H1 = H at hP hS ⊢
    refine lv_iconst (v := (-1 : Int32)) hx hb dX4_readMoveTo_34 (by decide) ?_
    refine lv_icmp_eq (tgt := 46) hx hb dX4_readMoveTo_35 (by decide) (fun hc => ?_) (fun hc => ?_)
    · have hf := hf.1 hc
      refine lv_aload_n hx hb dX4_readMoveTo_46 rfl (lv_at hl 0 rfl) ?_
      refine va_get (D := D) (ci := 4) (v := .ref q_t_game) (C := RX4) (T := TX4) (N := 10) hx hb hts hinX4 hown hK hP 0 rfl rfl 1 (by decide) k12 (fun _ h9 => h9) rfl dX4_readMoveTo_47 ?_
      refine va_get (D := D) (ci := 1) (v := .int t_game_moves) (C := RX1) (T := TX1) (N := 9) hx hb hts hinX1 hown hK hP 1 rfl rfl 3 (by decide) k114 (fun _ h9 => h9) rfl dX4_readMoveTo_50 ?_
      refine lv_bipush (v := (60 : Int32)) hx hb dX4_readMoveTo_53 (by decide) ?_
      refine lv_icmp_lt (tgt := 66) hx hb dX4_readMoveTo_55 (by decide) (fun hc => ?_) (fun hc => ?_)
      · have hf := hf.1 hc
        refine lv_aload_n hx hb dX4_readMoveTo_66 rfl (lv_at hl 0 rfl) ?_
        refine va_get (D := D) (ci := 4) (v := .ref q_t_game) (C := RX4) (T := TX4) (N := 10) hx hb hts hinX4 hown hK hP 0 rfl rfl 1 (by decide) k12 (fun _ h9 => h9) rfl dX4_readMoveTo_67 ?_
        refine lv_iload_n hx hb dX4_readMoveTo_70 rfl (lv_at hl 1 rfl) ?_
        refine lv_aload_n hx hb dX4_readMoveTo_71 rfl (lv_at hl 0 rfl) ?_
        refine va_get (D := D) (ci := 4) (v := .int t_value) (C := RX4) (T := TX4) (N := 10) hx hb hts hinX4 hown hK hP 0 rfl rfl 8 (by decide) k94 (fun _ h9 => h9) rfl dX4_readMoveTo_72 ?_
        have hPc := hP.sub (ws' := (wd_X1_appendMove cI cZ cB cG q_t_game q_t_game_from q_t_game_to q_t_game_calls q_t_game_heard t_game_places t_game_odd t_game_moves t_game_token t_game_made t_game_from t_game_to)) [1, 2, 3] rfl
        have hDc := hD.sub (ws' := (wd_X1_appendMove cI cZ cB cG q_t_game q_t_game_from q_t_game_to q_t_game_calls q_t_game_heard t_game_places t_game_odd t_game_moves t_game_token t_game_made t_game_from t_game_to)) [1, 2, 3] (by decide +kernel) rfl
        have hFc := va_free (wc := (wd_X1_appendMove cI cZ cB cG q_t_game q_t_game_from q_t_game_to q_t_game_calls q_t_game_heard t_game_places t_game_odd t_game_moves t_game_token t_game_made t_game_from t_game_to)) hD hS hA [1, 2, 3] rfl
        refine va_callv (va_runV (As := [.int a1, .int t_value]) (rest := []) ⟨hx, hb, hml, hown, hts⟩ (c_X1_appendMove l D X cI cZ cB cG H.size q_t_game q_t_game_from q_t_game_to q_t_game_calls q_t_game_heard a1 t_value t_game_places t_game_odd t_game_moves t_game_token t_game_made t_game_from t_game_to _ hf) (cwV 2 hts gX4_readMoveTo_X1_appendMove rfl rfl rfl (by decide +kernel) ⟨Nat.le_of_ble_eq_true rfl, Nat.le_of_ble_eq_true rfl⟩) ⟨g_blind, va_recv hK hPc (ci := 1) (q0 := 0) rfl rfl, fun U hU hW => g_side hU hW hPc hK hDc hE hS hFc⟩ rfl rfl hl.1 rfl (lv_room (Nat.le_of_ble_eq_true rfl)) dX4_readMoveTo_75 ⟨Nat.zero_le _, Nat.zero_le _⟩) hS (fun q _ h => hFc q h) hFc (fun u t H1 locs ht hvm hw hB hz1 hk1 hS => ?_)
        obtain ⟨t_game_moves_5, t_game_from_6, t_game_to_7⟩ := u
        obtain ⟨hP1, hK1, hD1⟩ := hB
        rw [ht] at hP1
        obtain ⟨hP, hD⟩ := g_back (wc := (wd_X1_appendMove cI cZ cB cG q_t_game q_t_game_from q_t_game_to q_t_game_calls q_t_game_heard t_game_places t_game_odd t_game_moves t_game_token t_game_made t_game_from t_game_to)) (w1 := (wd_X1_appendMove cI cZ cB cG q_t_game q_t_game_from q_t_game_to q_t_game_calls q_t_game_heard t_game_places t_game_odd t_game_moves_5 t_game_token t_game_made t_game_from_6 t_game_to_7)) hP hD [1, 2, 3] rfl rfl hk1 hP1
        have hP : va_P D vwCl (wd_X4_readMoveTo cI cZ cB cG q_t q_t_game q_t_game_from q_t_game_to q_t_text q_t_game_calls q_t_game_heard t_error t_errorAt t_length t_kind t_start t_end t_value t_laid t_game_places t_game_odd t_game_moves_5 t_game_token t_game_made t_game_from_6 t_game_to_7) H1 := hP
        have hD : va_D A (wd_X4_readMoveTo cI cZ cB cG q_t q_t_game q_t_game_from q_t_game_to q_t_text q_t_game_calls q_t_game_heard t_error t_errorAt t_length t_kind t_start t_end t_value t_laid t_game_places t_game_odd t_game_moves_5 t_game_token t_game_made t_game_from_6 t_game_to_7) := hD
        have hf := hw
        generalize H1 = H at hP hS ⊢
        exact hret (t_error, t_errorAt, t_game_moves_5, t_game_from_6, t_game_to_7) hf hP hD hS dX4_readMoveTo_78
      · have hf := hf.2 hc
        refine lv_aload_n hx hb dX4_readMoveTo_58 rfl (lv_at hl 0 rfl) ?_
        refine lv_iconst (v := (5 : Int32)) hx hb dX4_readMoveTo_59 (by decide) ?_
        have hPc := hP.sub (ws' := (wd_X4_fail cI cZ cB cG q_t q_t_text q_t_game t_error t_errorAt t_length t_kind t_start t_end t_value t_laid)) [0] rfl
        have hDc := hD.sub (ws' := (wd_X4_fail cI cZ cB cG q_t q_t_text q_t_game t_error t_errorAt t_length t_kind t_start t_end t_value t_laid)) [0] (by decide +kernel) rfl
        have hFc := va_free (wc := (wd_X4_fail cI cZ cB cG q_t q_t_text q_t_game t_error t_errorAt t_length t_kind t_start t_end t_value t_laid)) hD hS hA [0] rfl
        refine va_callv (va_runV (As := [.int (5 : Int32)]) (rest := []) ⟨hx, hb, hml, hown, hts⟩ (c_X4_fail l D X cI cZ cB cG H.size q_t q_t_text q_t_game (5 : Int32) t_error t_errorAt t_length t_kind t_start t_end t_value t_laid _ hf) (cwV 1 hts gX4_readMoveTo_X4_fail rfl rfl rfl (by decide +kernel) ⟨Nat.le_of_ble_eq_true rfl, Nat.le_of_ble_eq_true rfl⟩) ⟨g_blind, va_recv hK hPc (ci := 4) (q0 := 0) rfl rfl, fun U hU hW => g_side hU hW hPc hK hDc hE hS hFc⟩ rfl rfl hl.1 rfl (lv_room (Nat.le_of_ble_eq_true rfl)) dX4_readMoveTo_60 ⟨Nat.zero_le _, Nat.zero_le _⟩) hS (fun q _ h => hFc q h) hFc (fun u t H1 locs ht hvm hw hB hz1 hk1 hS => ?_)
        obtain ⟨t_error_8, t_errorAt_9⟩ := u
        obtain ⟨hP1, hK1, hD1⟩ := hB
        rw [ht] at hP1
        obtain ⟨hP, hD⟩ := g_back (wc := (wd_X4_fail cI cZ cB cG q_t q_t_text q_t_game t_error t_errorAt t_length t_kind t_start t_end t_value t_laid)) (w1 := (wd_X4_fail cI cZ cB cG q_t q_t_text q_t_game t_error_8 t_errorAt_9 t_length t_kind t_start t_end t_value t_laid)) hP hD [0] rfl rfl hk1 hP1
        have hP : va_P D vwCl (wd_X4_readMoveTo cI cZ cB cG q_t q_t_game q_t_game_from q_t_game_to q_t_text q_t_game_calls q_t_game_heard t_error_8 t_errorAt_9 t_length t_kind t_start t_end t_value t_laid t_game_places t_game_odd t_game_moves t_game_token t_game_made t_game_from t_game_to) H1 := hP
        have hD : va_D A (wd_X4_readMoveTo cI cZ cB cG q_t q_t_game q_t_game_from q_t_game_to q_t_text q_t_game_calls q_t_game_heard t_error_8 t_errorAt_9 t_length t_kind t_start t_end t_value t_laid t_game_places t_game_odd t_game_moves t_game_token t_game_made t_game_from t_game_to) := hD
        have hf := hw
        generalize H1 = H at hP hS ⊢
        refine lv_goto (tgt := 78) hx hb dX4_readMoveTo_63 (by decide) ?_
        exact hret (t_error_8, t_errorAt_9, t_game_moves, t_game_from, t_game_to) hf hP hD hS dX4_readMoveTo_78
    · have hf := hf.2 hc
      refine lv_aload_n hx hb dX4_readMoveTo_38 rfl (lv_at hl 0 rfl) ?_
      refine lv_iconst (v := (4 : Int32)) hx hb dX4_readMoveTo_39 (by decide) ?_
      have hPc := hP.sub (ws' := (wd_X4_fail cI cZ cB cG q_t q_t_text q_t_game t_error t_errorAt t_length t_kind t_start t_end t_value t_laid)) [0] rfl
      have hDc := hD.sub (ws' := (wd_X4_fail cI cZ cB cG q_t q_t_text q_t_game t_error t_errorAt t_length t_kind t_start t_end t_value t_laid)) [0] (by decide +kernel) rfl
      have hFc := va_free (wc := (wd_X4_fail cI cZ cB cG q_t q_t_text q_t_game t_error t_errorAt t_length t_kind t_start t_end t_value t_laid)) hD hS hA [0] rfl
      refine va_callv (va_runV (As := [.int (4 : Int32)]) (rest := []) ⟨hx, hb, hml, hown, hts⟩ (c_X4_fail l D X cI cZ cB cG H.size q_t q_t_text q_t_game (4 : Int32) t_error t_errorAt t_length t_kind t_start t_end t_value t_laid _ hf) (cwV 1 hts gX4_readMoveTo_X4_fail rfl rfl rfl (by decide +kernel) ⟨Nat.le_of_ble_eq_true rfl, Nat.le_of_ble_eq_true rfl⟩) ⟨g_blind, va_recv hK hPc (ci := 4) (q0 := 0) rfl rfl, fun U hU hW => g_side hU hW hPc hK hDc hE hS hFc⟩ rfl rfl hl.1 rfl (lv_room (Nat.le_of_ble_eq_true rfl)) dX4_readMoveTo_40 ⟨Nat.zero_le _, Nat.zero_le _⟩) hS (fun q _ h => hFc q h) hFc (fun u t H1 locs ht hvm hw hB hz1 hk1 hS => ?_)
      obtain ⟨t_error_10, t_errorAt_11⟩ := u
      obtain ⟨hP1, hK1, hD1⟩ := hB
      rw [ht] at hP1
      obtain ⟨hP, hD⟩ := g_back (wc := (wd_X4_fail cI cZ cB cG q_t q_t_text q_t_game t_error t_errorAt t_length t_kind t_start t_end t_value t_laid)) (w1 := (wd_X4_fail cI cZ cB cG q_t q_t_text q_t_game t_error_10 t_errorAt_11 t_length t_kind t_start t_end t_value t_laid)) hP hD [0] rfl rfl hk1 hP1
      have hP : va_P D vwCl (wd_X4_readMoveTo cI cZ cB cG q_t q_t_game q_t_game_from q_t_game_to q_t_text q_t_game_calls q_t_game_heard t_error_10 t_errorAt_11 t_length t_kind t_start t_end t_value t_laid t_game_places t_game_odd t_game_moves t_game_token t_game_made t_game_from t_game_to) H1 := hP
      have hD : va_D A (wd_X4_readMoveTo cI cZ cB cG q_t q_t_game q_t_game_from q_t_game_to q_t_text q_t_game_calls q_t_game_heard t_error_10 t_errorAt_11 t_length t_kind t_start t_end t_value t_laid t_game_places t_game_odd t_game_moves t_game_token t_game_made t_game_from t_game_to) := hD
      have hf := hw
      generalize H1 = H at hP hS ⊢
      refine lv_goto (tgt := 78) hx hb dX4_readMoveTo_43 (by decide) ?_
      exact hret (t_error_10, t_errorAt_11, t_game_moves, t_game_from, t_game_to) hf hP hD hS dX4_readMoveTo_78
  · have hf := hf.2 hc
    refine lv_aload_n hx hb dX4_readMoveTo_14 rfl (lv_at hl 0 rfl) ?_
    refine lv_iconst (v := (3 : Int32)) hx hb dX4_readMoveTo_15 (by decide) ?_
    have hPc := hP.sub (ws' := (wd_X4_fail cI cZ cB cG q_t q_t_text q_t_game t_error t_errorAt t_length t_kind t_start t_end t_value t_laid)) [0] rfl
    have hDc := hD.sub (ws' := (wd_X4_fail cI cZ cB cG q_t q_t_text q_t_game t_error t_errorAt t_length t_kind t_start t_end t_value t_laid)) [0] (by decide +kernel) rfl
    have hFc := va_free (wc := (wd_X4_fail cI cZ cB cG q_t q_t_text q_t_game t_error t_errorAt t_length t_kind t_start t_end t_value t_laid)) hD hS hA [0] rfl
    refine va_callv (va_runV (As := [.int (3 : Int32)]) (rest := []) ⟨hx, hb, hml, hown, hts⟩ (c_X4_fail l D X cI cZ cB cG H.size q_t q_t_text q_t_game (3 : Int32) t_error t_errorAt t_length t_kind t_start t_end t_value t_laid _ hf) (cwV 1 hts gX4_readMoveTo_X4_fail rfl rfl rfl (by decide +kernel) ⟨Nat.le_of_ble_eq_true rfl, Nat.le_of_ble_eq_true rfl⟩) ⟨g_blind, va_recv hK hPc (ci := 4) (q0 := 0) rfl rfl, fun U hU hW => g_side hU hW hPc hK hDc hE hS hFc⟩ rfl rfl hl.1 rfl (lv_room (Nat.le_of_ble_eq_true rfl)) dX4_readMoveTo_16 ⟨Nat.zero_le _, Nat.zero_le _⟩) hS (fun q _ h => hFc q h) hFc (fun u t H1 locs ht hvm hw hB hz1 hk1 hS => ?_)
    obtain ⟨t_error_12, t_errorAt_13⟩ := u
    obtain ⟨hP1, hK1, hD1⟩ := hB
    rw [ht] at hP1
    obtain ⟨hP, hD⟩ := g_back (wc := (wd_X4_fail cI cZ cB cG q_t q_t_text q_t_game t_error t_errorAt t_length t_kind t_start t_end t_value t_laid)) (w1 := (wd_X4_fail cI cZ cB cG q_t q_t_text q_t_game t_error_12 t_errorAt_13 t_length t_kind t_start t_end t_value t_laid)) hP hD [0] rfl rfl hk1 hP1
    have hP : va_P D vwCl (wd_X4_readMoveTo cI cZ cB cG q_t q_t_game q_t_game_from q_t_game_to q_t_text q_t_game_calls q_t_game_heard t_error_12 t_errorAt_13 t_length t_kind t_start t_end t_value t_laid t_game_places t_game_odd t_game_moves t_game_token t_game_made t_game_from t_game_to) H1 := hP
    have hD : va_D A (wd_X4_readMoveTo cI cZ cB cG q_t q_t_game q_t_game_from q_t_game_to q_t_text q_t_game_calls q_t_game_heard t_error_12 t_errorAt_13 t_length t_kind t_start t_end t_value t_laid t_game_places t_game_odd t_game_moves t_game_token t_game_made t_game_from t_game_to) := hD
    have hf := hw
    generalize H1 = H at hP hS ⊢
    refine lv_goto (tgt := 78) hx hb dX4_readMoveTo_19 (by decide) ?_
    exact hret (t_error_12, t_errorAt_13, t_game_moves, t_game_from, t_game_to) hf hP hD hS dX4_readMoveTo_78
abbrev wd_X4_readMoves (cI cZ cB cG : ClassId) (q_t : Nat) (q_t_game : Nat) (q_t_text : Nat) (q_t_game_from : Nat) (q_t_game_to : Nat) (q_t_game_calls : Nat) (q_t_game_heard : Nat) (t_error : Int32) (t_errorAt : Int32) (t_length : Int32) (t_kind : Int32) (t_start : Int32) (t_end : Int32) (t_value : Int32) (t_laid : Int32) (t_game_places : Int32) (t_game_odd : Int32) (t_game_moves : Int32) (t_game_token : Int32) (t_game_made : Int32) (t_text : (Nat → Int32)) (t_game_from : (Nat → Int32)) (t_game_to : (Nat → Int32)) : va_W := [(q_t, .inr (4, [.ref q_t_text, .ref q_t_game, .int t_error, .int t_errorAt, .int t_length, .int t_kind, .int t_start, .int t_end, .int t_value, .int t_laid])), (q_t_game, .inr (1, [.int t_game_places, .int t_game_odd, .ref q_t_game_calls, .int t_game_moves, .ref q_t_game_from, .ref q_t_game_to, .int t_game_token, .int t_game_made, .ref q_t_game_heard])), (q_t_text, .inl (cI, 600, .inl t_text)), (q_t_game_from, .inl (cI, 60, .inl t_game_from)), (q_t_game_to, .inl (cI, 60, .inl t_game_to))]
def F_X4_readMoves_39 (v1 : Int32) (t_length : Int32) (t_game_places : Int32) (t_text : (Nat → Int32)) (K0 : Int32 → Int32 → Int32 → Int32 → Int32 → Int32 → Int32 → Int32 → (Nat → Int32) → (Nat → Int32) → Prop) (rec : Int32 → Int32 → Int32 → Int32 → Int32 → Int32 → Int32 → Int32 → (Nat → Int32) → (Nat → Int32) → Prop) (v2 : Int32) (t_error : Int32) (t_errorAt : Int32) (t_kind : Int32) (t_start : Int32) (t_end : Int32) (t_value : Int32) (t_game_moves : Int32) (t_game_from : (Nat → Int32)) (t_game_to : (Nat → Int32)) : Prop := ((t_length ≤ v2 → (K0 v2 t_error t_errorAt t_kind t_start t_end t_value t_game_moves t_game_from t_game_to)) ∧ (¬ (t_length ≤ v2) → ((¬ t_error = (0 : Int32) → (K0 v2 t_error t_errorAt t_kind t_start t_end t_value t_game_moves t_game_from t_game_to)) ∧ (t_error = (0 : Int32) → ((¬ t_kind = (2 : Int32) → (K0 v2 t_error t_errorAt t_kind t_start t_end t_value t_game_moves t_game_from t_game_to)) ∧ (t_kind = (2 : Int32) → (wp_X4_readMoveTo v1 t_error t_errorAt t_start t_value t_game_places t_game_moves t_game_from t_game_to (fun t_error_7 t_errorAt_8 t_game_moves_9 t_game_from_10 t_game_to_11 => (wp_X4_advance t_length t_kind t_end t_value t_text (fun t_kind_12 t_start_13 t_end_14 t_value_15 => (rec ((v2 + (1 : Int32))) t_error_7 t_errorAt_8 t_kind_12 t_start_13 t_end_14 t_value_15 t_game_moves_9 t_game_from_10 t_game_to_11)))))))))))
def wp_X4_readMoves (t_error : Int32) (t_errorAt : Int32) (t_length : Int32) (t_kind : Int32) (t_end : Int32) (t_value : Int32) (t_game_places : Int32) (t_game_moves : Int32) (t_text : (Nat → Int32)) (t_game_from : (Nat → Int32)) (t_game_to : (Nat → Int32)) (post : Int32 → Int32 → Int32 → Int32 → Int32 → Int32 → Int32 → (Nat → Int32) → (Nat → Int32) → Prop) : Prop := (wp_X4_advance t_length t_kind t_end t_value t_text (fun t_kind_1 t_start_2 t_end_3 t_value_4 => (wp_X4_needPlaceNumber t_error t_errorAt t_kind_1 t_start_2 t_value_4 t_game_places (fun t_error_5 t_errorAt_6 => ((¬ t_error_5 = (0 : Int32) → (∃ n, fx10 (F_X4_readMoves_39 t_value_4 t_length t_game_places t_text (fun v2_16 t_error_17 t_errorAt_18 t_kind_19 t_start_20 t_end_21 t_value_22 t_game_moves_23 t_game_from_24 t_game_to_25 => (post t_error_17 t_errorAt_18 t_kind_19 t_start_20 t_end_21 t_value_22 t_game_moves_23 t_game_from_24 t_game_to_25))) n (0 : Int32) t_error_5 t_errorAt_6 t_kind_1 t_start_2 t_end_3 t_value_4 t_game_moves t_game_from t_game_to)) ∧ (t_error_5 = (0 : Int32) → (wp_X4_advance t_length t_kind_1 t_end_3 t_value_4 t_text (fun t_kind_26 t_start_27 t_end_28 t_value_29 => ((t_kind_26 = (2 : Int32) → (∃ n, fx10 (F_X4_readMoves_39 t_value_4 t_length t_game_places t_text (fun v2_30 t_error_31 t_errorAt_32 t_kind_33 t_start_34 t_end_35 t_value_36 t_game_moves_37 t_game_from_38 t_game_to_39 => (post t_error_31 t_errorAt_32 t_kind_33 t_start_34 t_end_35 t_value_36 t_game_moves_37 t_game_from_38 t_game_to_39))) n (0 : Int32) t_error_5 t_errorAt_6 t_kind_26 t_start_27 t_end_28 t_value_29 t_game_moves t_game_from t_game_to)) ∧ (¬ (t_kind_26 = (2 : Int32)) → (wp_X4_fail (1 : Int32) t_error_5 t_errorAt_6 t_start_27 (fun t_error_40 t_errorAt_41 => (∃ n, fx10 (F_X4_readMoves_39 t_value_4 t_length t_game_places t_text (fun v2_42 t_error_43 t_errorAt_44 t_kind_45 t_start_46 t_end_47 t_value_48 t_game_moves_49 t_game_from_50 t_game_to_51 => (post t_error_43 t_errorAt_44 t_kind_45 t_start_46 t_end_47 t_value_48 t_game_moves_49 t_game_from_50 t_game_to_51))) n (0 : Int32) t_error_40 t_errorAt_41 t_kind_26 t_start_27 t_end_28 t_value_29 t_game_moves t_game_from t_game_to)))))))))))))
abbrev rm_X4_readMoves : Room := { frames := 4, cells := 0, slots := 0, locals := 145 }
theorem in_X4_readMoves_X4 : ∀ w ∈ u_ws RX4 TX4 10, w ∈ wsX4_readMoves := by decide +kernel
theorem k_X4_readMoves_32 : Cond.fieldLink RX4 32 "ParityGame$Reader" "length" "I" ∈ wsX4_readMoves := by decide +kernel
theorem k_X4_readMoves_35 : Cond.fieldLink RX4 35 "ParityGame$Reader" "error" "I" ∈ wsX4_readMoves := by decide +kernel
theorem k_X4_readMoves_38 : Cond.fieldLink RX4 38 "ParityGame$Reader" "kind" "I" ∈ wsX4_readMoves := by decide +kernel
theorem k_X4_readMoves_94 : Cond.fieldLink RX4 94 "ParityGame$Reader" "value" "I" ∈ wsX4_readMoves := by decide +kernel
set_option maxHeartbeats 40000000 in
set_option maxRecDepth 100000 in
theorem c_X4_readMoves (l : Launch) (D : va_G) (X : gX) (cI cZ cB cG : ClassId) (sz : Nat) (q_t : Nat) (q_t_game : Nat) (q_t_text : Nat) (q_t_game_from : Nat) (q_t_game_to : Nat) (q_t_game_calls : Nat) (q_t_game_heard : Nat) (t_error : Int32) (t_errorAt : Int32) (t_length : Int32) (t_kind : Int32) (t_start : Int32) (t_end : Int32) (t_value : Int32) (t_laid : Int32) (t_game_places : Int32) (t_game_odd : Int32) (t_game_moves : Int32) (t_game_token : Int32) (t_game_made : Int32) (t_text : (Nat → Int32)) (t_game_from : (Nat → Int32)) (t_game_to : (Nat → Int32)) (post : Int32 → Int32 → Int32 → Int32 → Int32 → Int32 → Int32 → (Nat → Int32) → (Nat → Int32) → Prop) (hf : wp_X4_readMoves t_error t_errorAt t_length t_kind t_end t_value t_game_places t_game_moves t_text t_game_from t_game_to post) : Met l yX4_readMoves wsX4_readMoves rm_X4_readMoves (gP D X (gT cI cZ cB cG) sz [.ref q_t] (wd_X4_readMoves cI cZ cB cG q_t q_t_game q_t_text q_t_game_from q_t_game_to q_t_game_calls q_t_game_heard t_error t_errorAt t_length t_kind t_start t_end t_value t_laid t_game_places t_game_odd t_game_moves t_game_token t_game_made t_text t_game_from t_game_to)) (va_Qv (fun (u : Int32 × Int32 × Int32 × Int32 × Int32 × Int32 × Int32 × (Nat → Int32) × (Nat → Int32)) => post u.1 u.2.1 u.2.2.1 u.2.2.2.1 u.2.2.2.2.1 u.2.2.2.2.2.1 u.2.2.2.2.2.2.1 u.2.2.2.2.2.2.2.1 u.2.2.2.2.2.2.2.2) (fun u t => gB D (gT cI cZ cB cG) (va_A (wd_X4_readMoves cI cZ cB cG q_t q_t_game q_t_text q_t_game_from q_t_game_to q_t_game_calls q_t_game_heard t_error t_errorAt t_length t_kind t_start t_end t_value t_laid t_game_places t_game_odd t_game_moves t_game_token t_game_made t_text t_game_from t_game_to) sz) (wd_X4_readMoves cI cZ cB cG q_t q_t_game q_t_text q_t_game_from q_t_game_to q_t_game_calls q_t_game_heard u.1 u.2.1 t_length u.2.2.1 u.2.2.2.1 u.2.2.2.2.1 u.2.2.2.2.2.1 t_laid t_game_places t_game_odd u.2.2.2.2.2.2.1 t_game_token t_game_made t_text u.2.2.2.2.2.2.2.1 u.2.2.2.2.2.2.2.2) t) (va_A (wd_X4_readMoves cI cZ cB cG q_t q_t_game q_t_text q_t_game_from q_t_game_to q_t_game_calls q_t_game_heard t_error t_errorAt t_length t_kind t_start t_end t_value t_laid t_game_places t_game_odd t_game_moves t_game_token t_game_made t_text t_game_from t_game_to) sz)) 0 0 (va_A (wd_X4_readMoves cI cZ cB cG q_t q_t_game q_t_text q_t_game_from q_t_game_to q_t_game_calls q_t_game_heard t_error t_errorAt t_length t_kind t_start t_end t_value t_laid t_game_places t_game_odd t_game_moves t_game_token t_game_made t_text t_game_from t_game_to) sz) := by
  refine g_ofWv (cc := cX4_readMoves) (maxL := 3) (by decide +kernel) (Nat.le_of_ble_eq_true rfl) rfl ?_
  intro p e s m args below meth c A Q hx hb hml hown hts hA hK hE H hP hD hS ls hl hret
  have hinX4 := in_X4_readMoves_X4
  have k32 := hts _ k_X4_readMoves_32
  have k35 := hts _ k_X4_readMoves_35
  have k38 := hts _ k_X4_readMoves_38
  have k94 := hts _ k_X4_readMoves_94
  have hl : lv_has ls 3 [(0, .ref q_t)] := hl
  have L39 : ∀ (v1 : Int32) (K0 : Int32 → Int32 → Int32 → Int32 → Int32 → Int32 → Int32 → Int32 → (Nat → Int32) → (Nat → Int32) → Prop) (_ : ∀ (v2 : Int32) (t_error : Int32) (t_errorAt : Int32) (t_kind : Int32) (t_start : Int32) (t_end : Int32) (t_value : Int32) (t_game_moves : Int32) (t_game_from : (Nat → Int32)) (t_game_to : (Nat → Int32)) (H : Heap) (locs : List Loc) (ls : Array Slot), K0 v2 t_error t_errorAt t_kind t_start t_end t_value t_game_moves t_game_from t_game_to → va_P D vwCl (wd_X4_readMoves cI cZ cB cG q_t q_t_game q_t_text q_t_game_from q_t_game_to q_t_game_calls q_t_game_heard t_error t_errorAt t_length t_kind t_start t_end t_value t_laid t_game_places t_game_odd t_game_moves t_game_token t_game_made t_text t_game_from t_game_to) H → va_D A (wd_X4_readMoves cI cZ cB cG q_t q_t_game q_t_text q_t_game_from q_t_game_to q_t_game_calls q_t_game_heard t_error t_errorAt t_length t_kind t_start t_end t_value t_laid t_game_places t_game_odd t_game_moves t_game_token t_game_made t_text t_game_from t_game_to) → va_S A s.heap H locs → lv_has ls 3 [] → W p l e (rm_X4_readMoves) s m args below meth c H locs 0 0 Q (F0 m 77 ls []))  (n : Nat) (v2 : Int32) (t_error : Int32) (t_errorAt : Int32) (t_kind : Int32) (t_start : Int32) (t_end : Int32) (t_value : Int32) (t_game_moves : Int32) (t_game_from : (Nat → Int32)) (t_game_to : (Nat → Int32)) (H : Heap) (locs : List Loc) (ls : Array Slot), fx10 (F_X4_readMoves_39 v1 t_length t_game_places t_text K0) n v2 t_error t_errorAt t_kind t_start t_end t_value t_game_moves t_game_from t_game_to → va_P D vwCl (wd_X4_readMoves cI cZ cB cG q_t q_t_game q_t_text q_t_game_from q_t_game_to q_t_game_calls q_t_game_heard t_error t_errorAt t_length t_kind t_start t_end t_value t_laid t_game_places t_game_odd t_game_moves t_game_token t_game_made t_text t_game_from t_game_to) H → va_D A (wd_X4_readMoves cI cZ cB cG q_t q_t_game q_t_text q_t_game_from q_t_game_to q_t_game_calls q_t_game_heard t_error t_errorAt t_length t_kind t_start t_end t_value t_laid t_game_places t_game_odd t_game_moves t_game_token t_game_made t_text t_game_from t_game_to) → va_S A s.heap H locs → lv_has ls 3 [(0, .ref q_t), (1, .int v1), (2, .int v2)] → W p l e (rm_X4_readMoves) s m args below meth c H locs 0 0 Q (F0 m 39 ls []) := by
    intro v1 K0 hK0 n
    induction n with
    | zero => intro v2 t_error t_errorAt t_kind t_start t_end t_value t_game_moves t_game_from t_game_to H locs ls hf; exact (hf : False).elim
    | succ n ih =>
      intro v2 t_error t_errorAt t_kind t_start t_end t_value t_game_moves t_game_from t_game_to H locs ls hf hP hD hS hl
      have hf : F_X4_readMoves_39 v1 t_length t_game_places t_text K0 (fx10 (F_X4_readMoves_39 v1 t_length t_game_places t_text K0) n) v2 t_error t_errorAt t_kind t_start t_end t_value t_game_moves t_game_from t_game_to := hf
      unfold F_X4_readMoves_39 at hf
      refine lv_iload_n hx hb dX4_readMoves_39 rfl (lv_at hl 2 rfl) ?_
      refine lv_aload_n hx hb dX4_readMoves_40 rfl (lv_at hl 0 rfl) ?_
      refine va_get (D := D) (ci := 4) (v := .int t_length) (C := RX4) (T := TX4) (N := 10) hx hb hts hinX4 hown hK hP 0 rfl rfl 4 (by decide) k32 (fun _ h9 => h9) rfl dX4_readMoves_41 ?_
      refine lv_icmp_ge (tgt := 77) hx hb dX4_readMoves_44 (by decide) (fun hc => ?_) (fun hc => ?_)
      · have hf := hf.1 hc
        exact hK0 _ _ _ _ _ _ _ _ _ _ _ _ _ hf hP hD hS (lv_sub hl [] rfl)
      · have hf := hf.2 hc
        refine lv_aload_n hx hb dX4_readMoves_47 rfl (lv_at hl 0 rfl) ?_
        refine va_get (D := D) (ci := 4) (v := .int t_error) (C := RX4) (T := TX4) (N := 10) hx hb hts hinX4 hown hK hP 0 rfl rfl 2 (by decide) k35 (fun _ h9 => h9) rfl dX4_readMoves_48 ?_
        refine lv_if_ne (tgt := 77) hx hb dX4_readMoves_51 (by decide) (fun hc => ?_) (fun hc => ?_)
        · have hf := hf.1 hc
          exact hK0 _ _ _ _ _ _ _ _ _ _ _ _ _ hf hP hD hS (lv_sub hl [] rfl)
        · have hf := hf.2 hc
          refine lv_aload_n hx hb dX4_readMoves_54 rfl (lv_at hl 0 rfl) ?_
          refine va_get (D := D) (ci := 4) (v := .int t_kind) (C := RX4) (T := TX4) (N := 10) hx hb hts hinX4 hown hK hP 0 rfl rfl 5 (by decide) k38 (fun _ h9 => h9) rfl dX4_readMoves_55 ?_
          refine lv_iconst (v := (2 : Int32)) hx hb dX4_readMoves_58 (by decide) ?_
          refine lv_icmp_ne (tgt := 77) hx hb dX4_readMoves_59 (by decide) (fun hc => ?_) (fun hc => ?_)
          · have hf := hf.1 hc
            exact hK0 _ _ _ _ _ _ _ _ _ _ _ _ _ hf hP hD hS (lv_sub hl [] rfl)
          · have hf := hf.2 hc
            refine lv_aload_n hx hb dX4_readMoves_62 rfl (lv_at hl 0 rfl) ?_
            refine lv_iload_n hx hb dX4_readMoves_63 rfl (lv_at hl 1 rfl) ?_
            have hPc := hP.sub (ws' := (wd_X4_readMoveTo cI cZ cB cG q_t q_t_game q_t_game_from q_t_game_to q_t_text q_t_game_calls q_t_game_heard t_error t_errorAt t_length t_kind t_start t_end t_value t_laid t_game_places t_game_odd t_game_moves t_game_token t_game_made t_game_from t_game_to)) [0, 1, 3, 4] rfl
            have hDc := hD.sub (ws' := (wd_X4_readMoveTo cI cZ cB cG q_t q_t_game q_t_game_from q_t_game_to q_t_text q_t_game_calls q_t_game_heard t_error t_errorAt t_length t_kind t_start t_end t_value t_laid t_game_places t_game_odd t_game_moves t_game_token t_game_made t_game_from t_game_to)) [0, 1, 3, 4] (by decide +kernel) rfl
            have hFc := va_free (wc := (wd_X4_readMoveTo cI cZ cB cG q_t q_t_game q_t_game_from q_t_game_to q_t_text q_t_game_calls q_t_game_heard t_error t_errorAt t_length t_kind t_start t_end t_value t_laid t_game_places t_game_odd t_game_moves t_game_token t_game_made t_game_from t_game_to)) hD hS hA [0, 1, 3, 4] rfl
            refine va_callv (va_runV (As := [.int v1]) (rest := []) ⟨hx, hb, hml, hown, hts⟩ (c_X4_readMoveTo l D X cI cZ cB cG H.size q_t q_t_game q_t_game_from q_t_game_to q_t_text q_t_game_calls q_t_game_heard v1 t_error t_errorAt t_length t_kind t_start t_end t_value t_laid t_game_places t_game_odd t_game_moves t_game_token t_game_made t_game_from t_game_to _ hf) (cwV 1 hts gX4_readMoves_X4_readMoveTo rfl rfl rfl (by decide +kernel) ⟨Nat.le_of_ble_eq_true rfl, Nat.le_of_ble_eq_true rfl⟩) ⟨g_blind, va_recv hK hPc (ci := 4) (q0 := 0) rfl rfl, fun U hU hW => g_side hU hW hPc hK hDc hE hS hFc⟩ rfl rfl hl.1 rfl (lv_room (Nat.le_of_ble_eq_true rfl)) dX4_readMoves_64 ⟨Nat.zero_le _, Nat.zero_le _⟩) hS (fun q _ h => hFc q h) hFc (fun u t H1 locs ht hvm hw hB hz1 hk1 hS => ?_)
            obtain ⟨t_error_7, t_errorAt_8, t_game_moves_9, t_game_from_10, t_game_to_11⟩ := u
            obtain ⟨hP1, hK1, hD1⟩ := hB
            rw [ht] at hP1
            obtain ⟨hP, hD⟩ := g_back (wc := (wd_X4_readMoveTo cI cZ cB cG q_t q_t_game q_t_game_from q_t_game_to q_t_text q_t_game_calls q_t_game_heard t_error t_errorAt t_length t_kind t_start t_end t_value t_laid t_game_places t_game_odd t_game_moves t_game_token t_game_made t_game_from t_game_to)) (w1 := (wd_X4_readMoveTo cI cZ cB cG q_t q_t_game q_t_game_from q_t_game_to q_t_text q_t_game_calls q_t_game_heard t_error_7 t_errorAt_8 t_length t_kind t_start t_end t_value t_laid t_game_places t_game_odd t_game_moves_9 t_game_token t_game_made t_game_from_10 t_game_to_11)) hP hD [0, 1, 3, 4] rfl rfl hk1 hP1
            have hP : va_P D vwCl (wd_X4_readMoves cI cZ cB cG q_t q_t_game q_t_text q_t_game_from q_t_game_to q_t_game_calls q_t_game_heard t_error_7 t_errorAt_8 t_length t_kind t_start t_end t_value t_laid t_game_places t_game_odd t_game_moves_9 t_game_token t_game_made t_text t_game_from_10 t_game_to_11) H1 := hP
            have hD : va_D A (wd_X4_readMoves cI cZ cB cG q_t q_t_game q_t_text q_t_game_from q_t_game_to q_t_game_calls q_t_game_heard t_error_7 t_errorAt_8 t_length t_kind t_start t_end t_value t_laid t_game_places t_game_odd t_game_moves_9 t_game_token t_game_made t_text t_game_from_10 t_game_to_11) := hD
            have hf := hw
            generalize H1 = H at hP hS ⊢
            refine lv_aload_n hx hb dX4_readMoves_67 rfl (lv_at hl 0 rfl) ?_
            have hPc := hP.sub (ws' := (wd_X4_advance cI cZ cB cG q_t q_t_text q_t_game t_error_7 t_errorAt_8 t_length t_kind t_start t_end t_value t_laid t_text)) [0, 2] rfl
            have hDc := hD.sub (ws' := (wd_X4_advance cI cZ cB cG q_t q_t_text q_t_game t_error_7 t_errorAt_8 t_length t_kind t_start t_end t_value t_laid t_text)) [0, 2] (by decide +kernel) rfl
            have hFc := va_free (wc := (wd_X4_advance cI cZ cB cG q_t q_t_text q_t_game t_error_7 t_errorAt_8 t_length t_kind t_start t_end t_value t_laid t_text)) hD hS hA [0, 2] rfl
            refine va_callv (va_runV (As := []) (rest := []) ⟨hx, hb, hml, hown, hts⟩ (c_X4_advance l D X cI cZ cB cG H.size q_t q_t_text q_t_game t_error_7 t_errorAt_8 t_length t_kind t_start t_end t_value t_laid t_text _ hf) (cwV 0 hts gX4_readMoves_X4_advance rfl rfl rfl (by decide +kernel) ⟨Nat.le_of_ble_eq_true rfl, Nat.le_of_ble_eq_true rfl⟩) ⟨g_blind, va_recv hK hPc (ci := 4) (q0 := 0) rfl rfl, fun U hU hW => g_side hU hW hPc hK hDc hE hS hFc⟩ rfl rfl hl.1 rfl (lv_room (Nat.le_of_ble_eq_true rfl)) dX4_readMoves_68 ⟨Nat.zero_le _, Nat.zero_le _⟩) hS (fun q _ h => hFc q h) hFc (fun u t H1 locs ht hvm hw hB hz1 hk1 hS => ?_)
            obtain ⟨t_kind_12, t_start_13, t_end_14, t_value_15⟩ := u
            obtain ⟨hP1, hK1, hD1⟩ := hB
            rw [ht] at hP1
            obtain ⟨hP, hD⟩ := g_back (wc := (wd_X4_advance cI cZ cB cG q_t q_t_text q_t_game t_error_7 t_errorAt_8 t_length t_kind t_start t_end t_value t_laid t_text)) (w1 := (wd_X4_advance cI cZ cB cG q_t q_t_text q_t_game t_error_7 t_errorAt_8 t_length t_kind_12 t_start_13 t_end_14 t_value_15 t_laid t_text)) hP hD [0, 2] rfl rfl hk1 hP1
            have hP : va_P D vwCl (wd_X4_readMoves cI cZ cB cG q_t q_t_game q_t_text q_t_game_from q_t_game_to q_t_game_calls q_t_game_heard t_error_7 t_errorAt_8 t_length t_kind_12 t_start_13 t_end_14 t_value_15 t_laid t_game_places t_game_odd t_game_moves_9 t_game_token t_game_made t_text t_game_from_10 t_game_to_11) H1 := hP
            have hD : va_D A (wd_X4_readMoves cI cZ cB cG q_t q_t_game q_t_text q_t_game_from q_t_game_to q_t_game_calls q_t_game_heard t_error_7 t_errorAt_8 t_length t_kind_12 t_start_13 t_end_14 t_value_15 t_laid t_game_places t_game_odd t_game_moves_9 t_game_token t_game_made t_text t_game_from_10 t_game_to_11) := hD
            have hf := hw
            generalize H1 = H at hP hS ⊢
            refine lv_iinc (v := (v2 + (1 : Int32))) (lv' := [(2, .int ((v2 + (1 : Int32)))), (0, .ref q_t), (1, .int v1)]) hx hb dX4_readMoves_71 hl (k := 2) rfl rfl (by decide) rfl (fun ls hl => ?_)
            refine lv_goto (tgt := 39) hx hb dX4_readMoves_74 (by decide) ?_
            exact ih _ _ _ _ _ _ _ _ _ _ _ _ _ hf hP hD hS (lv_sub hl [1, 2, 0] rfl)
  unfold wp_X4_readMoves at hf
  refine lv_aload_n hx hb dX4_readMoves_0 rfl (lv_at hl 0 rfl) ?_
  have hPc := hP.sub (ws' := (wd_X4_advance cI cZ cB cG q_t q_t_text q_t_game t_error t_errorAt t_length t_kind t_start t_end t_value t_laid t_text)) [0, 2] rfl
  have hDc := hD.sub (ws' := (wd_X4_advance cI cZ cB cG q_t q_t_text q_t_game t_error t_errorAt t_length t_kind t_start t_end t_value t_laid t_text)) [0, 2] (by decide +kernel) rfl
  have hFc := va_free (wc := (wd_X4_advance cI cZ cB cG q_t q_t_text q_t_game t_error t_errorAt t_length t_kind t_start t_end t_value t_laid t_text)) hD hS hA [0, 2] rfl
  refine va_callv (va_runV (As := []) (rest := []) ⟨hx, hb, hml, hown, hts⟩ (c_X4_advance l D X cI cZ cB cG H.size q_t q_t_text q_t_game t_error t_errorAt t_length t_kind t_start t_end t_value t_laid t_text _ hf) (cwV 0 hts gX4_readMoves_X4_advance rfl rfl rfl (by decide +kernel) ⟨Nat.le_of_ble_eq_true rfl, Nat.le_of_ble_eq_true rfl⟩) ⟨g_blind, va_recv hK hPc (ci := 4) (q0 := 0) rfl rfl, fun U hU hW => g_side hU hW hPc hK hDc hE hS hFc⟩ rfl rfl hl.1 rfl (lv_room (Nat.le_of_ble_eq_true rfl)) dX4_readMoves_1 ⟨Nat.zero_le _, Nat.zero_le _⟩) hS (fun q _ h => hFc q h) hFc (fun u t H1 locs ht hvm hw hB hz1 hk1 hS => ?_)
  obtain ⟨t_kind_1, t_start_2, t_end_3, t_value_4⟩ := u
  obtain ⟨hP1, hK1, hD1⟩ := hB
  rw [ht] at hP1
  obtain ⟨hP, hD⟩ := g_back (wc := (wd_X4_advance cI cZ cB cG q_t q_t_text q_t_game t_error t_errorAt t_length t_kind t_start t_end t_value t_laid t_text)) (w1 := (wd_X4_advance cI cZ cB cG q_t q_t_text q_t_game t_error t_errorAt t_length t_kind_1 t_start_2 t_end_3 t_value_4 t_laid t_text)) hP hD [0, 2] rfl rfl hk1 hP1
  have hP : va_P D vwCl (wd_X4_readMoves cI cZ cB cG q_t q_t_game q_t_text q_t_game_from q_t_game_to q_t_game_calls q_t_game_heard t_error t_errorAt t_length t_kind_1 t_start_2 t_end_3 t_value_4 t_laid t_game_places t_game_odd t_game_moves t_game_token t_game_made t_text t_game_from t_game_to) H1 := hP
  have hD : va_D A (wd_X4_readMoves cI cZ cB cG q_t q_t_game q_t_text q_t_game_from q_t_game_to q_t_game_calls q_t_game_heard t_error t_errorAt t_length t_kind_1 t_start_2 t_end_3 t_value_4 t_laid t_game_places t_game_odd t_game_moves t_game_token t_game_made t_text t_game_from t_game_to) := hD
  have hf := hw
  generalize H1 = H at hP hS ⊢
  refine lv_aload_n hx hb dX4_readMoves_4 rfl (lv_at hl 0 rfl) ?_
  have hPc := hP.sub (ws' := (wd_X4_needPlaceNumber cI cZ cB cG q_t q_t_game q_t_text q_t_game_calls q_t_game_from q_t_game_to q_t_game_heard t_error t_errorAt t_length t_kind_1 t_start_2 t_end_3 t_value_4 t_laid t_game_places t_game_odd t_game_moves t_game_token t_game_made)) [0, 1] rfl
  have hDc := hD.sub (ws' := (wd_X4_needPlaceNumber cI cZ cB cG q_t q_t_game q_t_text q_t_game_calls q_t_game_from q_t_game_to q_t_game_heard t_error t_errorAt t_length t_kind_1 t_start_2 t_end_3 t_value_4 t_laid t_game_places t_game_odd t_game_moves t_game_token t_game_made)) [0, 1] (by decide +kernel) rfl
  have hFc := va_free (wc := (wd_X4_needPlaceNumber cI cZ cB cG q_t q_t_game q_t_text q_t_game_calls q_t_game_from q_t_game_to q_t_game_heard t_error t_errorAt t_length t_kind_1 t_start_2 t_end_3 t_value_4 t_laid t_game_places t_game_odd t_game_moves t_game_token t_game_made)) hD hS hA [0, 1] rfl
  refine va_callv (va_runV (As := []) (rest := []) ⟨hx, hb, hml, hown, hts⟩ (c_X4_needPlaceNumber l D X cI cZ cB cG H.size q_t q_t_game q_t_text q_t_game_calls q_t_game_from q_t_game_to q_t_game_heard t_error t_errorAt t_length t_kind_1 t_start_2 t_end_3 t_value_4 t_laid t_game_places t_game_odd t_game_moves t_game_token t_game_made _ hf) (cwV 0 hts gX4_readMoves_X4_needPlaceNumber rfl rfl rfl (by decide +kernel) ⟨Nat.le_of_ble_eq_true rfl, Nat.le_of_ble_eq_true rfl⟩) ⟨g_blind, va_recv hK hPc (ci := 4) (q0 := 0) rfl rfl, fun U hU hW => g_side hU hW hPc hK hDc hE hS hFc⟩ rfl rfl hl.1 rfl (lv_room (Nat.le_of_ble_eq_true rfl)) dX4_readMoves_5 ⟨Nat.zero_le _, Nat.zero_le _⟩) hS (fun q _ h => hFc q h) hFc (fun u t H1 locs ht hvm hw hB hz1 hk1 hS => ?_)
  obtain ⟨t_error_5, t_errorAt_6⟩ := u
  obtain ⟨hP1, hK1, hD1⟩ := hB
  rw [ht] at hP1
  obtain ⟨hP, hD⟩ := g_back (wc := (wd_X4_needPlaceNumber cI cZ cB cG q_t q_t_game q_t_text q_t_game_calls q_t_game_from q_t_game_to q_t_game_heard t_error t_errorAt t_length t_kind_1 t_start_2 t_end_3 t_value_4 t_laid t_game_places t_game_odd t_game_moves t_game_token t_game_made)) (w1 := (wd_X4_needPlaceNumber cI cZ cB cG q_t q_t_game q_t_text q_t_game_calls q_t_game_from q_t_game_to q_t_game_heard t_error_5 t_errorAt_6 t_length t_kind_1 t_start_2 t_end_3 t_value_4 t_laid t_game_places t_game_odd t_game_moves t_game_token t_game_made)) hP hD [0, 1] rfl rfl hk1 hP1
  have hP : va_P D vwCl (wd_X4_readMoves cI cZ cB cG q_t q_t_game q_t_text q_t_game_from q_t_game_to q_t_game_calls q_t_game_heard t_error_5 t_errorAt_6 t_length t_kind_1 t_start_2 t_end_3 t_value_4 t_laid t_game_places t_game_odd t_game_moves t_game_token t_game_made t_text t_game_from t_game_to) H1 := hP
  have hD : va_D A (wd_X4_readMoves cI cZ cB cG q_t q_t_game q_t_text q_t_game_from q_t_game_to q_t_game_calls q_t_game_heard t_error_5 t_errorAt_6 t_length t_kind_1 t_start_2 t_end_3 t_value_4 t_laid t_game_places t_game_odd t_game_moves t_game_token t_game_made t_text t_game_from t_game_to) := hD
  have hf := hw
  generalize H1 = H at hP hS ⊢
  refine lv_aload_n hx hb dX4_readMoves_8 rfl (lv_at hl 0 rfl) ?_
  refine va_get (D := D) (ci := 4) (v := .int t_value_4) (C := RX4) (T := TX4) (N := 10) hx hb hts hinX4 hown hK hP 0 rfl rfl 8 (by decide) k94 (fun _ h9 => h9) rfl dX4_readMoves_9 ?_
  refine lv_istore_n (lv' := [(1, .int t_value_4), (0, .ref q_t)]) hx hb dX4_readMoves_12 rfl hl (by decide) rfl (fun ls hl => ?_)
  refine lv_aload_n hx hb dX4_readMoves_13 rfl (lv_at hl 1 rfl) ?_
  refine va_get (D := D) (ci := 4) (v := .int t_error_5) (C := RX4) (T := TX4) (N := 10) hx hb hts hinX4 hown hK hP 0 rfl rfl 2 (by decide) k35 (fun _ h9 => h9) rfl dX4_readMoves_14 ?_
  refine lv_if_ne (tgt := 37) hx hb dX4_readMoves_17 (by decide) (fun hc => ?_) (fun hc => ?_)
  · have hf := hf.1 hc
    refine lv_iconst (v := (0 : Int32)) hx hb dX4_readMoves_37 (by decide) ?_
    refine lv_istore_n (lv' := [(2, .int (0 : Int32)), (1, .int t_value_4), (0, .ref q_t)]) hx hb dX4_readMoves_38 rfl hl (by decide) rfl (fun ls hl => ?_)
    obtain ⟨n, hf⟩ := hf
    refine L39 t_value_4 _ ?_  n _ _ _ _ _ _ _ _ _ _ _ _ _ hf hP hD hS (lv_sub hl [2, 1, 0] rfl)
    intro v2_16 t_error_17 t_errorAt_18 t_kind_19 t_start_20 t_end_21 t_value_22 t_game_moves_23 t_game_from_24 t_game_to_25 H locs ls hf hP hD hS hl
    exact hret (t_error_17, t_errorAt_18, t_kind_19, t_start_20, t_end_21, t_value_22, t_game_moves_23, t_game_from_24, t_game_to_25) hf hP hD hS dX4_readMoves_77
  · have hf := hf.2 hc
    refine lv_aload_n hx hb dX4_readMoves_20 rfl (lv_at hl 1 rfl) ?_
    have hPc := hP.sub (ws' := (wd_X4_advance cI cZ cB cG q_t q_t_text q_t_game t_error_5 t_errorAt_6 t_length t_kind_1 t_start_2 t_end_3 t_value_4 t_laid t_text)) [0, 2] rfl
    have hDc := hD.sub (ws' := (wd_X4_advance cI cZ cB cG q_t q_t_text q_t_game t_error_5 t_errorAt_6 t_length t_kind_1 t_start_2 t_end_3 t_value_4 t_laid t_text)) [0, 2] (by decide +kernel) rfl
    have hFc := va_free (wc := (wd_X4_advance cI cZ cB cG q_t q_t_text q_t_game t_error_5 t_errorAt_6 t_length t_kind_1 t_start_2 t_end_3 t_value_4 t_laid t_text)) hD hS hA [0, 2] rfl
    refine va_callv (va_runV (As := []) (rest := []) ⟨hx, hb, hml, hown, hts⟩ (c_X4_advance l D X cI cZ cB cG H.size q_t q_t_text q_t_game t_error_5 t_errorAt_6 t_length t_kind_1 t_start_2 t_end_3 t_value_4 t_laid t_text _ hf) (cwV 0 hts gX4_readMoves_X4_advance rfl rfl rfl (by decide +kernel) ⟨Nat.le_of_ble_eq_true rfl, Nat.le_of_ble_eq_true rfl⟩) ⟨g_blind, va_recv hK hPc (ci := 4) (q0 := 0) rfl rfl, fun U hU hW => g_side hU hW hPc hK hDc hE hS hFc⟩ rfl rfl hl.1 rfl (lv_room (Nat.le_of_ble_eq_true rfl)) dX4_readMoves_21 ⟨Nat.zero_le _, Nat.zero_le _⟩) hS (fun q _ h => hFc q h) hFc (fun u t H1 locs ht hvm hw hB hz1 hk1 hS => ?_)
    obtain ⟨t_kind_26, t_start_27, t_end_28, t_value_29⟩ := u
    obtain ⟨hP1, hK1, hD1⟩ := hB
    rw [ht] at hP1
    obtain ⟨hP, hD⟩ := g_back (wc := (wd_X4_advance cI cZ cB cG q_t q_t_text q_t_game t_error_5 t_errorAt_6 t_length t_kind_1 t_start_2 t_end_3 t_value_4 t_laid t_text)) (w1 := (wd_X4_advance cI cZ cB cG q_t q_t_text q_t_game t_error_5 t_errorAt_6 t_length t_kind_26 t_start_27 t_end_28 t_value_29 t_laid t_text)) hP hD [0, 2] rfl rfl hk1 hP1
    have hP : va_P D vwCl (wd_X4_readMoves cI cZ cB cG q_t q_t_game q_t_text q_t_game_from q_t_game_to q_t_game_calls q_t_game_heard t_error_5 t_errorAt_6 t_length t_kind_26 t_start_27 t_end_28 t_value_29 t_laid t_game_places t_game_odd t_game_moves t_game_token t_game_made t_text t_game_from t_game_to) H1 := hP
    have hD : va_D A (wd_X4_readMoves cI cZ cB cG q_t q_t_game q_t_text q_t_game_from q_t_game_to q_t_game_calls q_t_game_heard t_error_5 t_errorAt_6 t_length t_kind_26 t_start_27 t_end_28 t_value_29 t_laid t_game_places t_game_odd t_game_moves t_game_token t_game_made t_text t_game_from t_game_to) := hD
    have hf := hw
    generalize H1 = H at hP hS ⊢
    refine lv_aload_n hx hb dX4_readMoves_24 rfl (lv_at hl 1 rfl) ?_
    refine va_get (D := D) (ci := 4) (v := .int t_kind_26) (C := RX4) (T := TX4) (N := 10) hx hb hts hinX4 hown hK hP 0 rfl rfl 5 (by decide) k38 (fun _ h9 => h9) rfl dX4_readMoves_25 ?_
    refine lv_iconst (v := (2 : Int32)) hx hb dX4_readMoves_28 (by decide) ?_
    refine lv_icmp_eq (tgt := 37) hx hb dX4_readMoves_29 (by decide) (fun hc => ?_) (fun hc => ?_)
    · have hf := hf.1 hc
      refine lv_iconst (v := (0 : Int32)) hx hb dX4_readMoves_37 (by decide) ?_
      refine lv_istore_n (lv' := [(2, .int (0 : Int32)), (1, .int t_value_4), (0, .ref q_t)]) hx hb dX4_readMoves_38 rfl hl (by decide) rfl (fun ls hl => ?_)
      obtain ⟨n, hf⟩ := hf
      refine L39 t_value_4 _ ?_  n _ _ _ _ _ _ _ _ _ _ _ _ _ hf hP hD hS (lv_sub hl [2, 1, 0] rfl)
      intro v2_30 t_error_31 t_errorAt_32 t_kind_33 t_start_34 t_end_35 t_value_36 t_game_moves_37 t_game_from_38 t_game_to_39 H locs ls hf hP hD hS hl
      exact hret (t_error_31, t_errorAt_32, t_kind_33, t_start_34, t_end_35, t_value_36, t_game_moves_37, t_game_from_38, t_game_to_39) hf hP hD hS dX4_readMoves_77
    · have hf := hf.2 hc
      refine lv_aload_n hx hb dX4_readMoves_32 rfl (lv_at hl 1 rfl) ?_
      refine lv_iconst (v := (1 : Int32)) hx hb dX4_readMoves_33 (by decide) ?_
      have hPc := hP.sub (ws' := (wd_X4_fail cI cZ cB cG q_t q_t_text q_t_game t_error_5 t_errorAt_6 t_length t_kind_26 t_start_27 t_end_28 t_value_29 t_laid)) [0] rfl
      have hDc := hD.sub (ws' := (wd_X4_fail cI cZ cB cG q_t q_t_text q_t_game t_error_5 t_errorAt_6 t_length t_kind_26 t_start_27 t_end_28 t_value_29 t_laid)) [0] (by decide +kernel) rfl
      have hFc := va_free (wc := (wd_X4_fail cI cZ cB cG q_t q_t_text q_t_game t_error_5 t_errorAt_6 t_length t_kind_26 t_start_27 t_end_28 t_value_29 t_laid)) hD hS hA [0] rfl
      refine va_callv (va_runV (As := [.int (1 : Int32)]) (rest := []) ⟨hx, hb, hml, hown, hts⟩ (c_X4_fail l D X cI cZ cB cG H.size q_t q_t_text q_t_game (1 : Int32) t_error_5 t_errorAt_6 t_length t_kind_26 t_start_27 t_end_28 t_value_29 t_laid _ hf) (cwV 1 hts gX4_readMoves_X4_fail rfl rfl rfl (by decide +kernel) ⟨Nat.le_of_ble_eq_true rfl, Nat.le_of_ble_eq_true rfl⟩) ⟨g_blind, va_recv hK hPc (ci := 4) (q0 := 0) rfl rfl, fun U hU hW => g_side hU hW hPc hK hDc hE hS hFc⟩ rfl rfl hl.1 rfl (lv_room (Nat.le_of_ble_eq_true rfl)) dX4_readMoves_34 ⟨Nat.zero_le _, Nat.zero_le _⟩) hS (fun q _ h => hFc q h) hFc (fun u t H1 locs ht hvm hw hB hz1 hk1 hS => ?_)
      obtain ⟨t_error_40, t_errorAt_41⟩ := u
      obtain ⟨hP1, hK1, hD1⟩ := hB
      rw [ht] at hP1
      obtain ⟨hP, hD⟩ := g_back (wc := (wd_X4_fail cI cZ cB cG q_t q_t_text q_t_game t_error_5 t_errorAt_6 t_length t_kind_26 t_start_27 t_end_28 t_value_29 t_laid)) (w1 := (wd_X4_fail cI cZ cB cG q_t q_t_text q_t_game t_error_40 t_errorAt_41 t_length t_kind_26 t_start_27 t_end_28 t_value_29 t_laid)) hP hD [0] rfl rfl hk1 hP1
      have hP : va_P D vwCl (wd_X4_readMoves cI cZ cB cG q_t q_t_game q_t_text q_t_game_from q_t_game_to q_t_game_calls q_t_game_heard t_error_40 t_errorAt_41 t_length t_kind_26 t_start_27 t_end_28 t_value_29 t_laid t_game_places t_game_odd t_game_moves t_game_token t_game_made t_text t_game_from t_game_to) H1 := hP
      have hD : va_D A (wd_X4_readMoves cI cZ cB cG q_t q_t_game q_t_text q_t_game_from q_t_game_to q_t_game_calls q_t_game_heard t_error_40 t_errorAt_41 t_length t_kind_26 t_start_27 t_end_28 t_value_29 t_laid t_game_places t_game_odd t_game_moves t_game_token t_game_made t_text t_game_from t_game_to) := hD
      have hf := hw
      generalize H1 = H at hP hS ⊢
      refine lv_iconst (v := (0 : Int32)) hx hb dX4_readMoves_37 (by decide) ?_
      refine lv_istore_n (lv' := [(2, .int (0 : Int32)), (1, .int t_value_4), (0, .ref q_t)]) hx hb dX4_readMoves_38 rfl hl (by decide) rfl (fun ls hl => ?_)
      obtain ⟨n, hf⟩ := hf
      refine L39 t_value_4 _ ?_  n _ _ _ _ _ _ _ _ _ _ _ _ _ hf hP hD hS (lv_sub hl [2, 1, 0] rfl)
      intro v2_42 t_error_43 t_errorAt_44 t_kind_45 t_start_46 t_end_47 t_value_48 t_game_moves_49 t_game_from_50 t_game_to_51 H locs ls hf hP hD hS hl
      exact hret (t_error_43, t_errorAt_44, t_kind_45, t_start_46, t_end_47, t_value_48, t_game_moves_49, t_game_from_50, t_game_to_51) hf hP hD hS dX4_readMoves_77
abbrev wd_X4_readToken (cI cZ cB cG : ClassId) (q_t : Nat) (q_t_game : Nat) (q_t_text : Nat) (q_t_game_calls : Nat) (q_t_game_from : Nat) (q_t_game_to : Nat) (q_t_game_heard : Nat) (t_error : Int32) (t_errorAt : Int32) (t_length : Int32) (t_kind : Int32) (t_start : Int32) (t_end : Int32) (t_value : Int32) (t_laid : Int32) (t_game_places : Int32) (t_game_odd : Int32) (t_game_moves : Int32) (t_game_token : Int32) (t_game_made : Int32) (t_text : (Nat → Int32)) : va_W := [(q_t, .inr (4, [.ref q_t_text, .ref q_t_game, .int t_error, .int t_errorAt, .int t_length, .int t_kind, .int t_start, .int t_end, .int t_value, .int t_laid])), (q_t_game, .inr (1, [.int t_game_places, .int t_game_odd, .ref q_t_game_calls, .int t_game_moves, .ref q_t_game_from, .ref q_t_game_to, .int t_game_token, .int t_game_made, .ref q_t_game_heard])), (q_t_text, .inl (cI, 600, .inl t_text))]
def wp_X4_readToken (t_error : Int32) (t_errorAt : Int32) (t_length : Int32) (t_kind : Int32) (t_end : Int32) (t_value : Int32) (t_laid : Int32) (t_game_places : Int32) (t_text : (Nat → Int32)) (post : Int32 → Int32 → Int32 → Int32 → Int32 → Int32 → Int32 → Prop) : Prop := (wp_X4_advance t_length t_kind t_end t_value t_text (fun t_kind_1 t_start_2 t_end_3 t_value_4 => (wp_X4_needPlaceNumber t_error t_errorAt t_kind_1 t_start_2 t_value_4 t_game_places (fun t_error_5 t_errorAt_6 => ((¬ t_error_5 = (0 : Int32) → (post t_error_5 t_errorAt_6 t_kind_1 t_start_2 t_end_3 t_value_4 t_laid)) ∧ (t_error_5 = (0 : Int32) → (wp_X4_advance t_length t_kind_1 t_end_3 t_value_4 t_text (fun t_kind_7 t_start_8 t_end_9 t_value_10 => (post t_error_5 t_errorAt_6 t_kind_7 t_start_8 t_end_9 t_value_10 t_value_4)))))))))
abbrev rm_X4_readToken : Room := { frames := 4, cells := 0, slots := 0, locals := 145 }
theorem in_X4_readToken_X4 : ∀ w ∈ u_ws RX4 TX4 10, w ∈ wsX4_readToken := by decide +kernel
theorem k_X4_readToken_35 : Cond.fieldLink RX4 35 "ParityGame$Reader" "error" "I" ∈ wsX4_readToken := by decide +kernel
theorem k_X4_readToken_44 : Cond.fieldLink RX4 44 "ParityGame$Reader" "laid" "I" ∈ wsX4_readToken := by decide +kernel
theorem k_X4_readToken_94 : Cond.fieldLink RX4 94 "ParityGame$Reader" "value" "I" ∈ wsX4_readToken := by decide +kernel
set_option maxHeartbeats 40000000 in
set_option maxRecDepth 100000 in
theorem c_X4_readToken (l : Launch) (D : va_G) (X : gX) (cI cZ cB cG : ClassId) (sz : Nat) (q_t : Nat) (q_t_game : Nat) (q_t_text : Nat) (q_t_game_calls : Nat) (q_t_game_from : Nat) (q_t_game_to : Nat) (q_t_game_heard : Nat) (t_error : Int32) (t_errorAt : Int32) (t_length : Int32) (t_kind : Int32) (t_start : Int32) (t_end : Int32) (t_value : Int32) (t_laid : Int32) (t_game_places : Int32) (t_game_odd : Int32) (t_game_moves : Int32) (t_game_token : Int32) (t_game_made : Int32) (t_text : (Nat → Int32)) (post : Int32 → Int32 → Int32 → Int32 → Int32 → Int32 → Int32 → Prop) (hf : wp_X4_readToken t_error t_errorAt t_length t_kind t_end t_value t_laid t_game_places t_text post) : Met l yX4_readToken wsX4_readToken rm_X4_readToken (gP D X (gT cI cZ cB cG) sz [.ref q_t] (wd_X4_readToken cI cZ cB cG q_t q_t_game q_t_text q_t_game_calls q_t_game_from q_t_game_to q_t_game_heard t_error t_errorAt t_length t_kind t_start t_end t_value t_laid t_game_places t_game_odd t_game_moves t_game_token t_game_made t_text)) (va_Qv (fun (u : Int32 × Int32 × Int32 × Int32 × Int32 × Int32 × Int32) => post u.1 u.2.1 u.2.2.1 u.2.2.2.1 u.2.2.2.2.1 u.2.2.2.2.2.1 u.2.2.2.2.2.2) (fun u t => gB D (gT cI cZ cB cG) (va_A (wd_X4_readToken cI cZ cB cG q_t q_t_game q_t_text q_t_game_calls q_t_game_from q_t_game_to q_t_game_heard t_error t_errorAt t_length t_kind t_start t_end t_value t_laid t_game_places t_game_odd t_game_moves t_game_token t_game_made t_text) sz) (wd_X4_readToken cI cZ cB cG q_t q_t_game q_t_text q_t_game_calls q_t_game_from q_t_game_to q_t_game_heard u.1 u.2.1 t_length u.2.2.1 u.2.2.2.1 u.2.2.2.2.1 u.2.2.2.2.2.1 u.2.2.2.2.2.2 t_game_places t_game_odd t_game_moves t_game_token t_game_made t_text) t) (va_A (wd_X4_readToken cI cZ cB cG q_t q_t_game q_t_text q_t_game_calls q_t_game_from q_t_game_to q_t_game_heard t_error t_errorAt t_length t_kind t_start t_end t_value t_laid t_game_places t_game_odd t_game_moves t_game_token t_game_made t_text) sz)) 0 0 (va_A (wd_X4_readToken cI cZ cB cG q_t q_t_game q_t_text q_t_game_calls q_t_game_from q_t_game_to q_t_game_heard t_error t_errorAt t_length t_kind t_start t_end t_value t_laid t_game_places t_game_odd t_game_moves t_game_token t_game_made t_text) sz) := by
  refine g_ofWv (cc := cX4_readToken) (maxL := 1) (by decide +kernel) (Nat.le_of_ble_eq_true rfl) rfl ?_
  intro p e s m args below meth c A Q hx hb hml hown hts hA hK hE H hP hD hS ls hl hret
  have hinX4 := in_X4_readToken_X4
  have k35 := hts _ k_X4_readToken_35
  have k44 := hts _ k_X4_readToken_44
  have k94 := hts _ k_X4_readToken_94
  have hl : lv_has ls 1 [(0, .ref q_t)] := hl
  unfold wp_X4_readToken at hf
  refine lv_aload_n hx hb dX4_readToken_0 rfl (lv_at hl 0 rfl) ?_
  have hPc := hP.sub (ws' := (wd_X4_advance cI cZ cB cG q_t q_t_text q_t_game t_error t_errorAt t_length t_kind t_start t_end t_value t_laid t_text)) [0, 2] rfl
  have hDc := hD.sub (ws' := (wd_X4_advance cI cZ cB cG q_t q_t_text q_t_game t_error t_errorAt t_length t_kind t_start t_end t_value t_laid t_text)) [0, 2] (by decide +kernel) rfl
  have hFc := va_free (wc := (wd_X4_advance cI cZ cB cG q_t q_t_text q_t_game t_error t_errorAt t_length t_kind t_start t_end t_value t_laid t_text)) hD hS hA [0, 2] rfl
  refine va_callv (va_runV (As := []) (rest := []) ⟨hx, hb, hml, hown, hts⟩ (c_X4_advance l D X cI cZ cB cG H.size q_t q_t_text q_t_game t_error t_errorAt t_length t_kind t_start t_end t_value t_laid t_text _ hf) (cwV 0 hts gX4_readToken_X4_advance rfl rfl rfl (by decide +kernel) ⟨Nat.le_of_ble_eq_true rfl, Nat.le_of_ble_eq_true rfl⟩) ⟨g_blind, va_recv hK hPc (ci := 4) (q0 := 0) rfl rfl, fun U hU hW => g_side hU hW hPc hK hDc hE hS hFc⟩ rfl rfl hl.1 rfl (lv_room (Nat.le_of_ble_eq_true rfl)) dX4_readToken_1 ⟨Nat.zero_le _, Nat.zero_le _⟩) hS (fun q _ h => hFc q h) hFc (fun u t H1 locs ht hvm hw hB hz1 hk1 hS => ?_)
  obtain ⟨t_kind_1, t_start_2, t_end_3, t_value_4⟩ := u
  obtain ⟨hP1, hK1, hD1⟩ := hB
  rw [ht] at hP1
  obtain ⟨hP, hD⟩ := g_back (wc := (wd_X4_advance cI cZ cB cG q_t q_t_text q_t_game t_error t_errorAt t_length t_kind t_start t_end t_value t_laid t_text)) (w1 := (wd_X4_advance cI cZ cB cG q_t q_t_text q_t_game t_error t_errorAt t_length t_kind_1 t_start_2 t_end_3 t_value_4 t_laid t_text)) hP hD [0, 2] rfl rfl hk1 hP1
  have hP : va_P D vwCl (wd_X4_readToken cI cZ cB cG q_t q_t_game q_t_text q_t_game_calls q_t_game_from q_t_game_to q_t_game_heard t_error t_errorAt t_length t_kind_1 t_start_2 t_end_3 t_value_4 t_laid t_game_places t_game_odd t_game_moves t_game_token t_game_made t_text) H1 := hP
  have hD : va_D A (wd_X4_readToken cI cZ cB cG q_t q_t_game q_t_text q_t_game_calls q_t_game_from q_t_game_to q_t_game_heard t_error t_errorAt t_length t_kind_1 t_start_2 t_end_3 t_value_4 t_laid t_game_places t_game_odd t_game_moves t_game_token t_game_made t_text) := hD
  have hf := hw
  generalize H1 = H at hP hS ⊢
  refine lv_aload_n hx hb dX4_readToken_4 rfl (lv_at hl 0 rfl) ?_
  have hPc := hP.sub (ws' := (wd_X4_needPlaceNumber cI cZ cB cG q_t q_t_game q_t_text q_t_game_calls q_t_game_from q_t_game_to q_t_game_heard t_error t_errorAt t_length t_kind_1 t_start_2 t_end_3 t_value_4 t_laid t_game_places t_game_odd t_game_moves t_game_token t_game_made)) [0, 1] rfl
  have hDc := hD.sub (ws' := (wd_X4_needPlaceNumber cI cZ cB cG q_t q_t_game q_t_text q_t_game_calls q_t_game_from q_t_game_to q_t_game_heard t_error t_errorAt t_length t_kind_1 t_start_2 t_end_3 t_value_4 t_laid t_game_places t_game_odd t_game_moves t_game_token t_game_made)) [0, 1] (by decide +kernel) rfl
  have hFc := va_free (wc := (wd_X4_needPlaceNumber cI cZ cB cG q_t q_t_game q_t_text q_t_game_calls q_t_game_from q_t_game_to q_t_game_heard t_error t_errorAt t_length t_kind_1 t_start_2 t_end_3 t_value_4 t_laid t_game_places t_game_odd t_game_moves t_game_token t_game_made)) hD hS hA [0, 1] rfl
  refine va_callv (va_runV (As := []) (rest := []) ⟨hx, hb, hml, hown, hts⟩ (c_X4_needPlaceNumber l D X cI cZ cB cG H.size q_t q_t_game q_t_text q_t_game_calls q_t_game_from q_t_game_to q_t_game_heard t_error t_errorAt t_length t_kind_1 t_start_2 t_end_3 t_value_4 t_laid t_game_places t_game_odd t_game_moves t_game_token t_game_made _ hf) (cwV 0 hts gX4_readToken_X4_needPlaceNumber rfl rfl rfl (by decide +kernel) ⟨Nat.le_of_ble_eq_true rfl, Nat.le_of_ble_eq_true rfl⟩) ⟨g_blind, va_recv hK hPc (ci := 4) (q0 := 0) rfl rfl, fun U hU hW => g_side hU hW hPc hK hDc hE hS hFc⟩ rfl rfl hl.1 rfl (lv_room (Nat.le_of_ble_eq_true rfl)) dX4_readToken_5 ⟨Nat.zero_le _, Nat.zero_le _⟩) hS (fun q _ h => hFc q h) hFc (fun u t H1 locs ht hvm hw hB hz1 hk1 hS => ?_)
  obtain ⟨t_error_5, t_errorAt_6⟩ := u
  obtain ⟨hP1, hK1, hD1⟩ := hB
  rw [ht] at hP1
  obtain ⟨hP, hD⟩ := g_back (wc := (wd_X4_needPlaceNumber cI cZ cB cG q_t q_t_game q_t_text q_t_game_calls q_t_game_from q_t_game_to q_t_game_heard t_error t_errorAt t_length t_kind_1 t_start_2 t_end_3 t_value_4 t_laid t_game_places t_game_odd t_game_moves t_game_token t_game_made)) (w1 := (wd_X4_needPlaceNumber cI cZ cB cG q_t q_t_game q_t_text q_t_game_calls q_t_game_from q_t_game_to q_t_game_heard t_error_5 t_errorAt_6 t_length t_kind_1 t_start_2 t_end_3 t_value_4 t_laid t_game_places t_game_odd t_game_moves t_game_token t_game_made)) hP hD [0, 1] rfl rfl hk1 hP1
  have hP : va_P D vwCl (wd_X4_readToken cI cZ cB cG q_t q_t_game q_t_text q_t_game_calls q_t_game_from q_t_game_to q_t_game_heard t_error_5 t_errorAt_6 t_length t_kind_1 t_start_2 t_end_3 t_value_4 t_laid t_game_places t_game_odd t_game_moves t_game_token t_game_made t_text) H1 := hP
  have hD : va_D A (wd_X4_readToken cI cZ cB cG q_t q_t_game q_t_text q_t_game_calls q_t_game_from q_t_game_to q_t_game_heard t_error_5 t_errorAt_6 t_length t_kind_1 t_start_2 t_end_3 t_value_4 t_laid t_game_places t_game_odd t_game_moves t_game_token t_game_made t_text) := hD
  have hf := hw
  generalize H1 = H at hP hS ⊢
  refine lv_aload_n hx hb dX4_readToken_8 rfl (lv_at hl 0 rfl) ?_
  refine va_get (D := D) (ci := 4) (v := .int t_error_5) (C := RX4) (T := TX4) (N := 10) hx hb hts hinX4 hown hK hP 0 rfl rfl 2 (by decide) k35 (fun _ h9 => h9) rfl dX4_readToken_9 ?_
  refine lv_if_ne (tgt := 27) hx hb dX4_readToken_12 (by decide) (fun hc => ?_) (fun hc => ?_)
  · have hf := hf.1 hc
    exact hret (t_error_5, t_errorAt_6, t_kind_1, t_start_2, t_end_3, t_value_4, t_laid) hf hP hD hS dX4_readToken_27
  · have hf := hf.2 hc
    refine lv_aload_n hx hb dX4_readToken_15 rfl (lv_at hl 0 rfl) ?_
    refine lv_aload_n hx hb dX4_readToken_16 rfl (lv_at hl 0 rfl) ?_
    refine va_get (D := D) (ci := 4) (v := .int t_value_4) (C := RX4) (T := TX4) (N := 10) hx hb hts hinX4 hown hK hP 0 rfl rfl 8 (by decide) k94 (fun _ h9 => h9) rfl dX4_readToken_17 ?_
    refine va_put (D := D) (ci := 4) (v := .int t_value_4) (ty := .int) (C := RX4) (T := TX4) (N := 10) hx hb hts hinX4 tyX4 tyX4_ok nmX4 hown hK hP hD hS 0 rfl rfl 9 (by decide) k44 (fun _ h9 => h9) rfl (by decide +kernel) rfl rfl (Nat.le_of_ble_eq_true rfl) dX4_readToken_20 (fun H locs hP hD hS => ?_)
    have hP : va_P D vwCl (wd_X4_readToken cI cZ cB cG q_t q_t_game q_t_text q_t_game_calls q_t_game_from q_t_game_to q_t_game_heard t_error_5 t_errorAt_6 t_length t_kind_1 t_start_2 t_end_3 t_value_4 t_value_4 t_game_places t_game_odd t_game_moves t_game_token t_game_made t_text) H := hP
    have hD : va_D A (wd_X4_readToken cI cZ cB cG q_t q_t_game q_t_text q_t_game_calls q_t_game_from q_t_game_to q_t_game_heard t_error_5 t_errorAt_6 t_length t_kind_1 t_start_2 t_end_3 t_value_4 t_value_4 t_game_places t_game_odd t_game_moves t_game_token t_game_made t_text) := hD
    refine lv_aload_n hx hb dX4_readToken_23 rfl (lv_at hl 0 rfl) ?_
    have hPc := hP.sub (ws' := (wd_X4_advance cI cZ cB cG q_t q_t_text q_t_game t_error_5 t_errorAt_6 t_length t_kind_1 t_start_2 t_end_3 t_value_4 t_value_4 t_text)) [0, 2] rfl
    have hDc := hD.sub (ws' := (wd_X4_advance cI cZ cB cG q_t q_t_text q_t_game t_error_5 t_errorAt_6 t_length t_kind_1 t_start_2 t_end_3 t_value_4 t_value_4 t_text)) [0, 2] (by decide +kernel) rfl
    have hFc := va_free (wc := (wd_X4_advance cI cZ cB cG q_t q_t_text q_t_game t_error_5 t_errorAt_6 t_length t_kind_1 t_start_2 t_end_3 t_value_4 t_value_4 t_text)) hD hS hA [0, 2] rfl
    refine va_callv (va_runV (As := []) (rest := []) ⟨hx, hb, hml, hown, hts⟩ (c_X4_advance l D X cI cZ cB cG H.size q_t q_t_text q_t_game t_error_5 t_errorAt_6 t_length t_kind_1 t_start_2 t_end_3 t_value_4 t_value_4 t_text _ hf) (cwV 0 hts gX4_readToken_X4_advance rfl rfl rfl (by decide +kernel) ⟨Nat.le_of_ble_eq_true rfl, Nat.le_of_ble_eq_true rfl⟩) ⟨g_blind, va_recv hK hPc (ci := 4) (q0 := 0) rfl rfl, fun U hU hW => g_side hU hW hPc hK hDc hE hS hFc⟩ rfl rfl hl.1 rfl (lv_room (Nat.le_of_ble_eq_true rfl)) dX4_readToken_24 ⟨Nat.zero_le _, Nat.zero_le _⟩) hS (fun q _ h => hFc q h) hFc (fun u t H1 locs ht hvm hw hB hz1 hk1 hS => ?_)
    obtain ⟨t_kind_7, t_start_8, t_end_9, t_value_10⟩ := u
    obtain ⟨hP1, hK1, hD1⟩ := hB
    rw [ht] at hP1
    obtain ⟨hP, hD⟩ := g_back (wc := (wd_X4_advance cI cZ cB cG q_t q_t_text q_t_game t_error_5 t_errorAt_6 t_length t_kind_1 t_start_2 t_end_3 t_value_4 t_value_4 t_text)) (w1 := (wd_X4_advance cI cZ cB cG q_t q_t_text q_t_game t_error_5 t_errorAt_6 t_length t_kind_7 t_start_8 t_end_9 t_value_10 t_value_4 t_text)) hP hD [0, 2] rfl rfl hk1 hP1
    have hP : va_P D vwCl (wd_X4_readToken cI cZ cB cG q_t q_t_game q_t_text q_t_game_calls q_t_game_from q_t_game_to q_t_game_heard t_error_5 t_errorAt_6 t_length t_kind_7 t_start_8 t_end_9 t_value_10 t_value_4 t_game_places t_game_odd t_game_moves t_game_token t_game_made t_text) H1 := hP
    have hD : va_D A (wd_X4_readToken cI cZ cB cG q_t q_t_game q_t_text q_t_game_calls q_t_game_from q_t_game_to q_t_game_heard t_error_5 t_errorAt_6 t_length t_kind_7 t_start_8 t_end_9 t_value_10 t_value_4 t_game_places t_game_odd t_game_moves t_game_token t_game_made t_text) := hD
    have hf := hw
    generalize H1 = H at hP hS ⊢
    exact hret (t_error_5, t_errorAt_6, t_kind_7, t_start_8, t_end_9, t_value_10, t_value_4) hf hP hD hS dX4_readToken_27
