def wp_X5_has (a0 : Int32) (a1 : Int32) (post : Int32 → Prop) : Prop := ((((((a0).toUInt32 >>> ((a1).toUInt32 &&& Int32.toUInt32 31)).toInt32) &&& (1 : Int32)) = (0 : Int32) → (post (0 : Int32))) ∧ (¬ (((((a0).toUInt32 >>> ((a1).toUInt32 &&& Int32.toUInt32 31)).toInt32) &&& (1 : Int32)) = (0 : Int32)) → (post (1 : Int32))))
abbrev rm_X5_has : Room := { frames := 1, cells := 0, slots := 0, locals := 80 }
set_option maxHeartbeats 40000000 in
set_option maxRecDepth 100000 in
theorem c_X5_has (l : Launch) (D : va_G) (X : gX) (cI cZ cB cG : ClassId) (sz : Nat) (a0 : Int32) (a1 : Int32) (post : Int32 → Prop) (hf : wp_X5_has a0 a1 post) : Met l yX5_has wsX5_has rm_X5_has (gP D X (gT cI cZ cB cG) sz [.int a0, .int a1] ([] : va_W)) (va_Qi (fun (r : Int32) (u : Unit) => narrow .boolean (.int r) = .int r ∧ post r) (fun u t => gB D (gT cI cZ cB cG) (va_A ([] : va_W) sz) ([] : va_W) t) (va_A ([] : va_W) sz)) 0 0 (va_A ([] : va_W) sz) := by
  refine g_ofWz (cc := cX5_has) (maxL := 2) (by decide +kernel) (Nat.le_of_ble_eq_true rfl) rfl ?_
  intro p e s m args below meth c A Q hx hb hml hown hts hA hK hE H hP hD hS ls hl hret
  have hl : lv_has ls 2 [(0, .int a0), (1, .int a1)] := hl
  unfold wp_X5_has at hf
  refine lv_iload_n hx hb dX5_has_0 rfl (lv_at hl 0 rfl) ?_
  refine lv_iload_n hx hb dX5_has_1 rfl (lv_at hl 1 rfl) ?_
  refine lv_iushr (v := (((a0).toUInt32 >>> ((a1).toUInt32 &&& Int32.toUInt32 31)).toInt32)) hx hb dX5_has_2 rfl ?_
  refine lv_iconst (v := (1 : Int32)) hx hb dX5_has_3 (by decide) ?_
  refine lv_iand hx hb dX5_has_4 ?_
  refine lv_if_eq (tgt := 12) hx hb dX5_has_5 (by decide) (fun hc => ?_) (fun hc => ?_)
  · have hf := hf.1 hc
    refine lv_iconst (v := (0 : Int32)) hx hb dX5_has_12 (by decide) ?_
    exact hret (0 : Int32) () (by decide) hf hP hD hS dX5_has_13
  · have hf := hf.2 hc
    refine lv_iconst (v := (1 : Int32)) hx hb dX5_has_8 (by decide) ?_
    refine lv_goto (tgt := 13) hx hb dX5_has_9 (by decide) ?_
    exact hret (1 : Int32) () (by decide) hf hP hD hS dX5_has_13
abbrev wd_X0_join (cI cZ cB cG : ClassId) (q_t : Nat) (q_t_next : Nat) (q_t_owned : Nat) (q_t_calling : Nat) (t_places : Int32) (t_all : Int32) (t_next : (Nat → Int32)) : va_W := [(q_t, .inr (0, [.int t_places, .int t_all, .ref q_t_owned, .ref q_t_calling, .ref q_t_next])), (q_t_next, .inl (cI, 20, .inl t_next))]
def wp_X0_join (a1 : Int32) (a2 : Int32) (t_next : (Nat → Int32)) (post : (Nat → Int32) → Prop) : Prop := (vp_in a1 20 ∧ (vp_in a1 20 ∧ (post ((upd t_next a1.toNatClampNeg (((t_next a1.toNatClampNeg) ||| ((1 : Int32) <<< (a2 &&& 31)))))))))
abbrev rm_X0_join : Room := { frames := 1, cells := 0, slots := 0, locals := 80 }
theorem in_X0_join_X0 : ∀ w ∈ u_ws RX0 TX0 5, w ∈ wsX0_join := by decide +kernel
theorem k_X0_join_18 : Cond.fieldLink RX0 18 "ParityGame$Board" "next" "[I" ∈ wsX0_join := by decide +kernel
set_option maxHeartbeats 40000000 in
set_option maxRecDepth 100000 in
theorem c_X0_join (l : Launch) (D : va_G) (X : gX) (cI cZ cB cG : ClassId) (sz : Nat) (q_t : Nat) (q_t_next : Nat) (q_t_owned : Nat) (q_t_calling : Nat) (a1 : Int32) (a2 : Int32) (t_places : Int32) (t_all : Int32) (t_next : (Nat → Int32)) (post : (Nat → Int32) → Prop) (hf : wp_X0_join a1 a2 t_next post) : Met l yX0_join wsX0_join rm_X0_join (gP D X (gT cI cZ cB cG) sz [.ref q_t, .int a1, .int a2] (wd_X0_join cI cZ cB cG q_t q_t_next q_t_owned q_t_calling t_places t_all t_next)) (va_Qv (fun (u : (Nat → Int32)) => post u) (fun u t => gB D (gT cI cZ cB cG) (va_A (wd_X0_join cI cZ cB cG q_t q_t_next q_t_owned q_t_calling t_places t_all t_next) sz) (wd_X0_join cI cZ cB cG q_t q_t_next q_t_owned q_t_calling t_places t_all u) t) (va_A (wd_X0_join cI cZ cB cG q_t q_t_next q_t_owned q_t_calling t_places t_all t_next) sz)) 0 0 (va_A (wd_X0_join cI cZ cB cG q_t q_t_next q_t_owned q_t_calling t_places t_all t_next) sz) := by
  refine g_ofWv (cc := cX0_join) (maxL := 3) (by decide +kernel) (Nat.le_of_ble_eq_true rfl) rfl ?_
  intro p e s m args below meth c A Q hx hb hml hown hts hA hK hE H hP hD hS ls hl hret
  have hinX0 := in_X0_join_X0
  have k18 := hts _ k_X0_join_18
  have hl : lv_has ls 3 [(0, .ref q_t), (1, .int a1), (2, .int a2)] := hl
  unfold wp_X0_join at hf
  refine lv_aload_n hx hb dX0_join_0 rfl (lv_at hl 0 rfl) ?_
  refine va_get (D := D) (ci := 0) (v := .ref q_t_next) (C := RX0) (T := TX0) (N := 5) hx hb hts hinX0 hown hK hP 0 rfl rfl 4 (by decide) k18 (fun _ h9 => h9) rfl dX0_join_1 ?_
  refine lv_iload_n hx hb dX0_join_4 rfl (lv_at hl 1 rfl) ?_
  refine lv_dup2_11 hx hb dX0_join_5 rfl rfl ?_
  refine va_iald hx hb hK hP 1 0 rfl rfl (n := 20) hf.1 dX0_join_6 ?_
  have hf := hf.2
  refine lv_iconst (v := (1 : Int32)) hx hb dX0_join_7 (by decide) ?_
  refine lv_iload_n hx hb dX0_join_8 rfl (lv_at hl 2 rfl) ?_
  refine lv_ishl hx hb dX0_join_9 ?_
  refine lv_ior hx hb dX0_join_10 ?_
  refine va_iast hx hb hK hP hD hS 1 0 rfl rfl (n := 20) hf.1 dX0_join_11 (fun H locs hP hD hS => ?_)
  have hf := hf.2
  have hP : va_P D vwCl (wd_X0_join cI cZ cB cG q_t q_t_next q_t_owned q_t_calling t_places t_all ((upd t_next a1.toNatClampNeg (((t_next a1.toNatClampNeg) ||| ((1 : Int32) <<< (a2 &&& 31))))))) H := hP
  have hD : va_D A (wd_X0_join cI cZ cB cG q_t q_t_next q_t_owned q_t_calling t_places t_all ((upd t_next a1.toNatClampNeg (((t_next a1.toNatClampNeg) ||| ((1 : Int32) <<< (a2 &&& 31))))))) := hD
  exact hret ((upd t_next a1.toNatClampNeg (((t_next a1.toNatClampNeg) ||| ((1 : Int32) <<< (a2 &&& 31)))))) hf hP hD hS dX0_join_12
abbrev wd_X0_cut (cI cZ cB cG : ClassId) (q_t : Nat) (q_t_next : Nat) (q_t_owned : Nat) (q_t_calling : Nat) (t_places : Int32) (t_all : Int32) (t_next : (Nat → Int32)) : va_W := [(q_t, .inr (0, [.int t_places, .int t_all, .ref q_t_owned, .ref q_t_calling, .ref q_t_next])), (q_t_next, .inl (cI, 20, .inl t_next))]
def wp_X0_cut (a1 : Int32) (a2 : Int32) (t_next : (Nat → Int32)) (post : (Nat → Int32) → Prop) : Prop := (vp_in a1 20 ∧ (vp_in a1 20 ∧ (post ((upd t_next a1.toNatClampNeg (((t_next a1.toNatClampNeg) &&& (((1 : Int32) <<< (a2 &&& 31)) ^^^ (-1 : Int32)))))))))
abbrev rm_X0_cut : Room := { frames := 1, cells := 0, slots := 0, locals := 80 }
theorem in_X0_cut_X0 : ∀ w ∈ u_ws RX0 TX0 5, w ∈ wsX0_cut := by decide +kernel
theorem k_X0_cut_18 : Cond.fieldLink RX0 18 "ParityGame$Board" "next" "[I" ∈ wsX0_cut := by decide +kernel
set_option maxHeartbeats 40000000 in
set_option maxRecDepth 100000 in
theorem c_X0_cut (l : Launch) (D : va_G) (X : gX) (cI cZ cB cG : ClassId) (sz : Nat) (q_t : Nat) (q_t_next : Nat) (q_t_owned : Nat) (q_t_calling : Nat) (a1 : Int32) (a2 : Int32) (t_places : Int32) (t_all : Int32) (t_next : (Nat → Int32)) (post : (Nat → Int32) → Prop) (hf : wp_X0_cut a1 a2 t_next post) : Met l yX0_cut wsX0_cut rm_X0_cut (gP D X (gT cI cZ cB cG) sz [.ref q_t, .int a1, .int a2] (wd_X0_cut cI cZ cB cG q_t q_t_next q_t_owned q_t_calling t_places t_all t_next)) (va_Qv (fun (u : (Nat → Int32)) => post u) (fun u t => gB D (gT cI cZ cB cG) (va_A (wd_X0_cut cI cZ cB cG q_t q_t_next q_t_owned q_t_calling t_places t_all t_next) sz) (wd_X0_cut cI cZ cB cG q_t q_t_next q_t_owned q_t_calling t_places t_all u) t) (va_A (wd_X0_cut cI cZ cB cG q_t q_t_next q_t_owned q_t_calling t_places t_all t_next) sz)) 0 0 (va_A (wd_X0_cut cI cZ cB cG q_t q_t_next q_t_owned q_t_calling t_places t_all t_next) sz) := by
  refine g_ofWv (cc := cX0_cut) (maxL := 3) (by decide +kernel) (Nat.le_of_ble_eq_true rfl) rfl ?_
  intro p e s m args below meth c A Q hx hb hml hown hts hA hK hE H hP hD hS ls hl hret
  have hinX0 := in_X0_cut_X0
  have k18 := hts _ k_X0_cut_18
  have hl : lv_has ls 3 [(0, .ref q_t), (1, .int a1), (2, .int a2)] := hl
  unfold wp_X0_cut at hf
  refine lv_aload_n hx hb dX0_cut_0 rfl (lv_at hl 0 rfl) ?_
  refine va_get (D := D) (ci := 0) (v := .ref q_t_next) (C := RX0) (T := TX0) (N := 5) hx hb hts hinX0 hown hK hP 0 rfl rfl 4 (by decide) k18 (fun _ h9 => h9) rfl dX0_cut_1 ?_
  refine lv_iload_n hx hb dX0_cut_4 rfl (lv_at hl 1 rfl) ?_
  refine lv_dup2_11 hx hb dX0_cut_5 rfl rfl ?_
  refine va_iald hx hb hK hP 1 0 rfl rfl (n := 20) hf.1 dX0_cut_6 ?_
  have hf := hf.2
  refine lv_iconst (v := (1 : Int32)) hx hb dX0_cut_7 (by decide) ?_
  refine lv_iload_n hx hb dX0_cut_8 rfl (lv_at hl 2 rfl) ?_
  refine lv_ishl hx hb dX0_cut_9 ?_
  refine lv_iconst (v := (-1 : Int32)) hx hb dX0_cut_10 (by decide) ?_
  refine lv_ixor hx hb dX0_cut_11 ?_
  refine lv_iand hx hb dX0_cut_12 ?_
  refine va_iast hx hb hK hP hD hS 1 0 rfl rfl (n := 20) hf.1 dX0_cut_13 (fun H locs hP hD hS => ?_)
  have hf := hf.2
  have hP : va_P D vwCl (wd_X0_cut cI cZ cB cG q_t q_t_next q_t_owned q_t_calling t_places t_all ((upd t_next a1.toNatClampNeg (((t_next a1.toNatClampNeg) &&& (((1 : Int32) <<< (a2 &&& 31)) ^^^ (-1 : Int32))))))) H := hP
  have hD : va_D A (wd_X0_cut cI cZ cB cG q_t q_t_next q_t_owned q_t_calling t_places t_all ((upd t_next a1.toNatClampNeg (((t_next a1.toNatClampNeg) &&& (((1 : Int32) <<< (a2 &&& 31)) ^^^ (-1 : Int32))))))) := hD
  exact hret ((upd t_next a1.toNatClampNeg (((t_next a1.toNatClampNeg) &&& (((1 : Int32) <<< (a2 &&& 31)) ^^^ (-1 : Int32)))))) hf hP hD hS dX0_cut_14
abbrev wd_X0_changeOwner (cI cZ cB cG : ClassId) (q_t : Nat) (q_t_owned : Nat) (q_t_calling : Nat) (q_t_next : Nat) (t_places : Int32) (t_all : Int32) (t_owned : (Nat → Int32)) : va_W := [(q_t, .inr (0, [.int t_places, .int t_all, .ref q_t_owned, .ref q_t_calling, .ref q_t_next])), (q_t_owned, .inl (cI, 2, .inl t_owned))]
def wp_X0_changeOwner (a1 : Int32) (t_owned : (Nat → Int32)) (post : (Nat → Int32) → Prop) : Prop := (post ((upd ((upd t_owned 0 (((t_owned 0) ^^^ ((1 : Int32) <<< (a1 &&& 31)))))) 1 (((((upd t_owned 0 (((t_owned 0) ^^^ ((1 : Int32) <<< (a1 &&& 31)))))) 1) ^^^ ((1 : Int32) <<< (a1 &&& 31)))))))
abbrev rm_X0_changeOwner : Room := { frames := 1, cells := 0, slots := 0, locals := 80 }
theorem in_X0_changeOwner_X0 : ∀ w ∈ u_ws RX0 TX0 5, w ∈ wsX0_changeOwner := by decide +kernel
theorem k_X0_changeOwner_9 : Cond.fieldLink RX0 9 "ParityGame$Board" "owned" "[I" ∈ wsX0_changeOwner := by decide +kernel
set_option maxHeartbeats 40000000 in
set_option maxRecDepth 100000 in
theorem c_X0_changeOwner (l : Launch) (D : va_G) (X : gX) (cI cZ cB cG : ClassId) (sz : Nat) (q_t : Nat) (q_t_owned : Nat) (q_t_calling : Nat) (q_t_next : Nat) (a1 : Int32) (t_places : Int32) (t_all : Int32) (t_owned : (Nat → Int32)) (post : (Nat → Int32) → Prop) (hf : wp_X0_changeOwner a1 t_owned post) : Met l yX0_changeOwner wsX0_changeOwner rm_X0_changeOwner (gP D X (gT cI cZ cB cG) sz [.ref q_t, .int a1] (wd_X0_changeOwner cI cZ cB cG q_t q_t_owned q_t_calling q_t_next t_places t_all t_owned)) (va_Qv (fun (u : (Nat → Int32)) => post u) (fun u t => gB D (gT cI cZ cB cG) (va_A (wd_X0_changeOwner cI cZ cB cG q_t q_t_owned q_t_calling q_t_next t_places t_all t_owned) sz) (wd_X0_changeOwner cI cZ cB cG q_t q_t_owned q_t_calling q_t_next t_places t_all u) t) (va_A (wd_X0_changeOwner cI cZ cB cG q_t q_t_owned q_t_calling q_t_next t_places t_all t_owned) sz)) 0 0 (va_A (wd_X0_changeOwner cI cZ cB cG q_t q_t_owned q_t_calling q_t_next t_places t_all t_owned) sz) := by
  refine g_ofWv (cc := cX0_changeOwner) (maxL := 2) (by decide +kernel) (Nat.le_of_ble_eq_true rfl) rfl ?_
  intro p e s m args below meth c A Q hx hb hml hown hts hA hK hE H hP hD hS ls hl hret
  have hinX0 := in_X0_changeOwner_X0
  have k9 := hts _ k_X0_changeOwner_9
  have hl : lv_has ls 2 [(0, .ref q_t), (1, .int a1)] := hl
  unfold wp_X0_changeOwner at hf
  refine lv_aload_n hx hb dX0_changeOwner_0 rfl (lv_at hl 0 rfl) ?_
  refine va_get (D := D) (ci := 0) (v := .ref q_t_owned) (C := RX0) (T := TX0) (N := 5) hx hb hts hinX0 hown hK hP 0 rfl rfl 2 (by decide) k9 (fun _ h9 => h9) rfl dX0_changeOwner_1 ?_
  refine lv_iconst (v := (0 : Int32)) hx hb dX0_changeOwner_4 (by decide) ?_
  refine lv_dup2_11 hx hb dX0_changeOwner_5 rfl rfl ?_
  refine va_iald hx hb hK hP 1 0 rfl rfl (n := 2) (by unfold vp_in; decide) dX0_changeOwner_6 ?_
  refine lv_iconst (v := (1 : Int32)) hx hb dX0_changeOwner_7 (by decide) ?_
  refine lv_iload_n hx hb dX0_changeOwner_8 rfl (lv_at hl 1 rfl) ?_
  refine lv_ishl hx hb dX0_changeOwner_9 ?_
  refine lv_ixor hx hb dX0_changeOwner_10 ?_
  refine va_iast hx hb hK hP hD hS 1 0 rfl rfl (n := 2) (by unfold vp_in; decide) dX0_changeOwner_11 (fun H locs hP hD hS => ?_)
  have hP : va_P D vwCl (wd_X0_changeOwner cI cZ cB cG q_t q_t_owned q_t_calling q_t_next t_places t_all ((upd t_owned 0 (((t_owned 0) ^^^ ((1 : Int32) <<< (a1 &&& 31))))))) H := hP
  have hD : va_D A (wd_X0_changeOwner cI cZ cB cG q_t q_t_owned q_t_calling q_t_next t_places t_all ((upd t_owned 0 (((t_owned 0) ^^^ ((1 : Int32) <<< (a1 &&& 31))))))) := hD
  refine lv_aload_n hx hb dX0_changeOwner_12 rfl (lv_at hl 0 rfl) ?_
  refine va_get (D := D) (ci := 0) (v := .ref q_t_owned) (C := RX0) (T := TX0) (N := 5) hx hb hts hinX0 hown hK hP 0 rfl rfl 2 (by decide) k9 (fun _ h9 => h9) rfl dX0_changeOwner_13 ?_
  refine lv_iconst (v := (1 : Int32)) hx hb dX0_changeOwner_16 (by decide) ?_
  refine lv_dup2_11 hx hb dX0_changeOwner_17 rfl rfl ?_
  refine va_iald hx hb hK hP 1 0 rfl rfl (n := 2) (by unfold vp_in; decide) dX0_changeOwner_18 ?_
  refine lv_iconst (v := (1 : Int32)) hx hb dX0_changeOwner_19 (by decide) ?_
  refine lv_iload_n hx hb dX0_changeOwner_20 rfl (lv_at hl 1 rfl) ?_
  refine lv_ishl hx hb dX0_changeOwner_21 ?_
  refine lv_ixor hx hb dX0_changeOwner_22 ?_
  refine va_iast hx hb hK hP hD hS 1 0 rfl rfl (n := 2) (by unfold vp_in; decide) dX0_changeOwner_23 (fun H locs hP hD hS => ?_)
  have hP : va_P D vwCl (wd_X0_changeOwner cI cZ cB cG q_t q_t_owned q_t_calling q_t_next t_places t_all ((upd ((upd t_owned 0 (((t_owned 0) ^^^ ((1 : Int32) <<< (a1 &&& 31)))))) 1 (((((upd t_owned 0 (((t_owned 0) ^^^ ((1 : Int32) <<< (a1 &&& 31)))))) 1) ^^^ ((1 : Int32) <<< (a1 &&& 31))))))) H := hP
  have hD : va_D A (wd_X0_changeOwner cI cZ cB cG q_t q_t_owned q_t_calling q_t_next t_places t_all ((upd ((upd t_owned 0 (((t_owned 0) ^^^ ((1 : Int32) <<< (a1 &&& 31)))))) 1 (((((upd t_owned 0 (((t_owned 0) ^^^ ((1 : Int32) <<< (a1 &&& 31)))))) 1) ^^^ ((1 : Int32) <<< (a1 &&& 31))))))) := hD
  exact hret ((upd ((upd t_owned 0 (((t_owned 0) ^^^ ((1 : Int32) <<< (a1 &&& 31)))))) 1 (((((upd t_owned 0 (((t_owned 0) ^^^ ((1 : Int32) <<< (a1 &&& 31)))))) 1) ^^^ ((1 : Int32) <<< (a1 &&& 31)))))) hf hP hD hS dX0_changeOwner_24
abbrev wd_X0_changeCall (cI cZ cB cG : ClassId) (q_t : Nat) (q_t_calling : Nat) (q_t_owned : Nat) (q_t_next : Nat) (t_places : Int32) (t_all : Int32) (t_calling : (Nat → Int32)) : va_W := [(q_t, .inr (0, [.int t_places, .int t_all, .ref q_t_owned, .ref q_t_calling, .ref q_t_next])), (q_t_calling, .inl (cI, 10, .inl t_calling))]
def F_X0_changeCall_2 (v1 : Int32) (K0 : Int32 → (Nat → Int32) → Prop) (rec : Int32 → (Nat → Int32) → Prop) (v3 : Int32) (t_calling : (Nat → Int32)) : Prop := (((10 : Int32) ≤ v3 → (K0 v3 t_calling)) ∧ (¬ ((10 : Int32) ≤ v3) → (vp_in v3 10 ∧ (vp_in v3 10 ∧ (rec ((v3 + (1 : Int32))) ((upd t_calling v3.toNatClampNeg (((t_calling v3.toNatClampNeg) &&& (((1 : Int32) <<< (v1 &&& 31)) ^^^ (-1 : Int32)))))))))))
def wp_X0_changeCall (a1 : Int32) (a2 : Int32) (t_calling : (Nat → Int32)) (post : (Nat → Int32) → Prop) : Prop := (∃ n, fx2 (F_X0_changeCall_2 a1 (fun v3_1 t_calling_2 => (vp_in a2 10 ∧ (vp_in a2 10 ∧ (post ((upd t_calling_2 a2.toNatClampNeg (((t_calling_2 a2.toNatClampNeg) ||| ((1 : Int32) <<< (a1 &&& 31))))))))))) n (0 : Int32) t_calling)
abbrev rm_X0_changeCall : Room := { frames := 1, cells := 0, slots := 0, locals := 80 }
theorem in_X0_changeCall_X0 : ∀ w ∈ u_ws RX0 TX0 5, w ∈ wsX0_changeCall := by decide +kernel
theorem k_X0_changeCall_15 : Cond.fieldLink RX0 15 "ParityGame$Board" "calling" "[I" ∈ wsX0_changeCall := by decide +kernel
set_option maxHeartbeats 40000000 in
set_option maxRecDepth 100000 in
theorem c_X0_changeCall (l : Launch) (D : va_G) (X : gX) (cI cZ cB cG : ClassId) (sz : Nat) (q_t : Nat) (q_t_calling : Nat) (q_t_owned : Nat) (q_t_next : Nat) (a1 : Int32) (a2 : Int32) (t_places : Int32) (t_all : Int32) (t_calling : (Nat → Int32)) (post : (Nat → Int32) → Prop) (hf : wp_X0_changeCall a1 a2 t_calling post) : Met l yX0_changeCall wsX0_changeCall rm_X0_changeCall (gP D X (gT cI cZ cB cG) sz [.ref q_t, .int a1, .int a2] (wd_X0_changeCall cI cZ cB cG q_t q_t_calling q_t_owned q_t_next t_places t_all t_calling)) (va_Qv (fun (u : (Nat → Int32)) => post u) (fun u t => gB D (gT cI cZ cB cG) (va_A (wd_X0_changeCall cI cZ cB cG q_t q_t_calling q_t_owned q_t_next t_places t_all t_calling) sz) (wd_X0_changeCall cI cZ cB cG q_t q_t_calling q_t_owned q_t_next t_places t_all u) t) (va_A (wd_X0_changeCall cI cZ cB cG q_t q_t_calling q_t_owned q_t_next t_places t_all t_calling) sz)) 0 0 (va_A (wd_X0_changeCall cI cZ cB cG q_t q_t_calling q_t_owned q_t_next t_places t_all t_calling) sz) := by
  refine g_ofWv (cc := cX0_changeCall) (maxL := 4) (by decide +kernel) (Nat.le_of_ble_eq_true rfl) rfl ?_
  intro p e s m args below meth c A Q hx hb hml hown hts hA hK hE H hP hD hS ls hl hret
  have hinX0 := in_X0_changeCall_X0
  have k15 := hts _ k_X0_changeCall_15
  have hl : lv_has ls 4 [(0, .ref q_t), (1, .int a1), (2, .int a2)] := hl
  have L2 : ∀ (v1 : Int32) (v2 : Int32) (K0 : Int32 → (Nat → Int32) → Prop) (_ : ∀ (v3 : Int32) (t_calling : (Nat → Int32)) (H : Heap) (locs : List Loc) (ls : Array Slot), K0 v3 t_calling → va_P D vwCl (wd_X0_changeCall cI cZ cB cG q_t q_t_calling q_t_owned q_t_next t_places t_all t_calling) H → va_D A (wd_X0_changeCall cI cZ cB cG q_t q_t_calling q_t_owned q_t_next t_places t_all t_calling) → va_S A s.heap H locs → lv_has ls 4 [(0, .ref q_t), (1, .int v1), (2, .int v2)] → W p l e (rm_X0_changeCall) s m args below meth c H locs 0 0 Q (F0 m 28 ls []))  (n : Nat) (v3 : Int32) (t_calling : (Nat → Int32)) (H : Heap) (locs : List Loc) (ls : Array Slot), fx2 (F_X0_changeCall_2 v1 K0) n v3 t_calling → va_P D vwCl (wd_X0_changeCall cI cZ cB cG q_t q_t_calling q_t_owned q_t_next t_places t_all t_calling) H → va_D A (wd_X0_changeCall cI cZ cB cG q_t q_t_calling q_t_owned q_t_next t_places t_all t_calling) → va_S A s.heap H locs → lv_has ls 4 [(0, .ref q_t), (1, .int v1), (2, .int v2), (3, .int v3)] → W p l e (rm_X0_changeCall) s m args below meth c H locs 0 0 Q (F0 m 2 ls []) := by
    intro v1 v2 K0 hK0 n
    induction n with
    | zero => intro v3 t_calling H locs ls hf; exact (hf : False).elim
    | succ n ih =>
      intro v3 t_calling H locs ls hf hP hD hS hl
      have hf : F_X0_changeCall_2 v1 K0 (fx2 (F_X0_changeCall_2 v1 K0) n) v3 t_calling := hf
      unfold F_X0_changeCall_2 at hf
      refine lv_iload_n hx hb dX0_changeCall_2 rfl (lv_at hl 3 rfl) ?_
      refine lv_bipush (v := (10 : Int32)) hx hb dX0_changeCall_3 (by decide) ?_
      refine lv_icmp_ge (tgt := 28) hx hb dX0_changeCall_5 (by decide) (fun hc => ?_) (fun hc => ?_)
      · have hf := hf.1 hc
        exact hK0 _ _ _ _ _ hf hP hD hS (lv_sub hl [0, 1, 2] rfl)
      · have hf := hf.2 hc
        refine lv_aload_n hx hb dX0_changeCall_8 rfl (lv_at hl 0 rfl) ?_
        refine va_get (D := D) (ci := 0) (v := .ref q_t_calling) (C := RX0) (T := TX0) (N := 5) hx hb hts hinX0 hown hK hP 0 rfl rfl 3 (by decide) k15 (fun _ h9 => h9) rfl dX0_changeCall_9 ?_
        refine lv_iload_n hx hb dX0_changeCall_12 rfl (lv_at hl 3 rfl) ?_
        refine lv_dup2_11 hx hb dX0_changeCall_13 rfl rfl ?_
        refine va_iald hx hb hK hP 1 0 rfl rfl (n := 10) hf.1 dX0_changeCall_14 ?_
        have hf := hf.2
        refine lv_iconst (v := (1 : Int32)) hx hb dX0_changeCall_15 (by decide) ?_
        refine lv_iload_n hx hb dX0_changeCall_16 rfl (lv_at hl 1 rfl) ?_
        refine lv_ishl hx hb dX0_changeCall_17 ?_
        refine lv_iconst (v := (-1 : Int32)) hx hb dX0_changeCall_18 (by decide) ?_
        refine lv_ixor hx hb dX0_changeCall_19 ?_
        refine lv_iand hx hb dX0_changeCall_20 ?_
        refine va_iast hx hb hK hP hD hS 1 0 rfl rfl (n := 10) hf.1 dX0_changeCall_21 (fun H locs hP hD hS => ?_)
        have hf := hf.2
        have hP : va_P D vwCl (wd_X0_changeCall cI cZ cB cG q_t q_t_calling q_t_owned q_t_next t_places t_all ((upd t_calling v3.toNatClampNeg (((t_calling v3.toNatClampNeg) &&& (((1 : Int32) <<< (v1 &&& 31)) ^^^ (-1 : Int32))))))) H := hP
        have hD : va_D A (wd_X0_changeCall cI cZ cB cG q_t q_t_calling q_t_owned q_t_next t_places t_all ((upd t_calling v3.toNatClampNeg (((t_calling v3.toNatClampNeg) &&& (((1 : Int32) <<< (v1 &&& 31)) ^^^ (-1 : Int32))))))) := hD
        refine lv_iinc (v := (v3 + (1 : Int32))) (lv' := [(3, .int ((v3 + (1 : Int32)))), (0, .ref q_t), (1, .int v1), (2, .int v2)]) hx hb dX0_changeCall_22 hl (k := 3) rfl rfl (by decide) rfl (fun ls hl => ?_)
        refine lv_goto (tgt := 2) hx hb dX0_changeCall_25 (by decide) ?_
        exact ih _ _ _ _ _ hf hP hD hS (lv_sub hl [1, 2, 3, 0] rfl)
  unfold wp_X0_changeCall at hf
  refine lv_iconst (v := (0 : Int32)) hx hb dX0_changeCall_0 (by decide) ?_
  refine lv_istore_n (lv' := [(3, .int (0 : Int32)), (0, .ref q_t), (1, .int a1), (2, .int a2)]) hx hb dX0_changeCall_1 rfl hl (by decide) rfl (fun ls hl => ?_)
  obtain ⟨n, hf⟩ := hf
  refine L2 a1 a2 _ ?_  n _ _ _ _ _ hf hP hD hS (lv_sub hl [1, 2, 3, 0] rfl)
  intro v3_1 t_calling_2 H locs ls hf hP hD hS hl
  refine lv_aload_n hx hb dX0_changeCall_28 rfl (lv_at hl 0 rfl) ?_
  refine va_get (D := D) (ci := 0) (v := .ref q_t_calling) (C := RX0) (T := TX0) (N := 5) hx hb hts hinX0 hown hK hP 0 rfl rfl 3 (by decide) k15 (fun _ h9 => h9) rfl dX0_changeCall_29 ?_
  refine lv_iload_n hx hb dX0_changeCall_32 rfl (lv_at hl 2 rfl) ?_
  refine lv_dup2_11 hx hb dX0_changeCall_33 rfl rfl ?_
  refine va_iald hx hb hK hP 1 0 rfl rfl (n := 10) hf.1 dX0_changeCall_34 ?_
  have hf := hf.2
  refine lv_iconst (v := (1 : Int32)) hx hb dX0_changeCall_35 (by decide) ?_
  refine lv_iload_n hx hb dX0_changeCall_36 rfl (lv_at hl 1 rfl) ?_
  refine lv_ishl hx hb dX0_changeCall_37 ?_
  refine lv_ior hx hb dX0_changeCall_38 ?_
  refine va_iast hx hb hK hP hD hS 1 0 rfl rfl (n := 10) hf.1 dX0_changeCall_39 (fun H locs hP hD hS => ?_)
  have hf := hf.2
  have hP : va_P D vwCl (wd_X0_changeCall cI cZ cB cG q_t q_t_calling q_t_owned q_t_next t_places t_all ((upd t_calling_2 a2.toNatClampNeg (((t_calling_2 a2.toNatClampNeg) ||| ((1 : Int32) <<< (a1 &&& 31))))))) H := hP
  have hD : va_D A (wd_X0_changeCall cI cZ cB cG q_t q_t_calling q_t_owned q_t_next t_places t_all ((upd t_calling_2 a2.toNatClampNeg (((t_calling_2 a2.toNatClampNeg) ||| ((1 : Int32) <<< (a1 &&& 31))))))) := hD
  exact hret ((upd t_calling_2 a2.toNatClampNeg (((t_calling_2 a2.toNatClampNeg) ||| ((1 : Int32) <<< (a1 &&& 31)))))) hf hP hD hS dX0_changeCall_40
abbrev wd_X0_differentCalls (cI cZ cB cG : ClassId) (q_t : Nat) (q_t_calling : Nat) (q_t_owned : Nat) (q_t_next : Nat) (t_places : Int32) (t_all : Int32) (t_calling : (Nat → Int32)) : va_W := [(q_t, .inr (0, [.int t_places, .int t_all, .ref q_t_owned, .ref q_t_calling, .ref q_t_next])), (q_t_calling, .inl (cI, 10, .inl t_calling))]
def F_X0_differentCalls_4 (t_calling : (Nat → Int32)) (K0 : Int32 → Int32 → Prop) (rec : Int32 → Int32 → Prop) (v1 : Int32) (v2 : Int32) : Prop := (((10 : Int32) ≤ v2 → (K0 v1 v2)) ∧ (¬ ((10 : Int32) ≤ v2) → (vp_in v2 10 ∧ (((t_calling v2.toNatClampNeg) = (0 : Int32) → (rec v1 ((v2 + (1 : Int32))))) ∧ (¬ ((t_calling v2.toNatClampNeg) = (0 : Int32)) → (rec ((v1 + (1 : Int32))) ((v2 + (1 : Int32)))))))))
def wp_X0_differentCalls (t_calling : (Nat → Int32)) (post : Int32 → Prop) : Prop := (∃ n, fx2 (F_X0_differentCalls_4 t_calling (fun v1_1 v2_2 => (post v1_1))) n (0 : Int32) (0 : Int32))
abbrev rm_X0_differentCalls : Room := { frames := 1, cells := 0, slots := 0, locals := 80 }
theorem in_X0_differentCalls_X0 : ∀ w ∈ u_ws RX0 TX0 5, w ∈ wsX0_differentCalls := by decide +kernel
theorem k_X0_differentCalls_15 : Cond.fieldLink RX0 15 "ParityGame$Board" "calling" "[I" ∈ wsX0_differentCalls := by decide +kernel
set_option maxHeartbeats 40000000 in
set_option maxRecDepth 100000 in
theorem c_X0_differentCalls (l : Launch) (D : va_G) (X : gX) (cI cZ cB cG : ClassId) (sz : Nat) (q_t : Nat) (q_t_calling : Nat) (q_t_owned : Nat) (q_t_next : Nat) (t_places : Int32) (t_all : Int32) (t_calling : (Nat → Int32)) (post : Int32 → Prop) (hf : wp_X0_differentCalls t_calling post) : Met l yX0_differentCalls wsX0_differentCalls rm_X0_differentCalls (gP D X (gT cI cZ cB cG) sz [.ref q_t] (wd_X0_differentCalls cI cZ cB cG q_t q_t_calling q_t_owned q_t_next t_places t_all t_calling)) (va_Qi (fun (r : Int32) (u : Unit) => post r) (fun u t => gB D (gT cI cZ cB cG) (va_A (wd_X0_differentCalls cI cZ cB cG q_t q_t_calling q_t_owned q_t_next t_places t_all t_calling) sz) (wd_X0_differentCalls cI cZ cB cG q_t q_t_calling q_t_owned q_t_next t_places t_all t_calling) t) (va_A (wd_X0_differentCalls cI cZ cB cG q_t q_t_calling q_t_owned q_t_next t_places t_all t_calling) sz)) 0 0 (va_A (wd_X0_differentCalls cI cZ cB cG q_t q_t_calling q_t_owned q_t_next t_places t_all t_calling) sz) := by
  refine g_ofWi (cc := cX0_differentCalls) (maxL := 3) (by decide +kernel) (Nat.le_of_ble_eq_true rfl) rfl ?_
  intro p e s m args below meth c A Q hx hb hml hown hts hA hK hE H hP hD hS ls hl hret
  have hinX0 := in_X0_differentCalls_X0
  have k15 := hts _ k_X0_differentCalls_15
  have hl : lv_has ls 3 [(0, .ref q_t)] := hl
  have L4 : ∀ (K0 : Int32 → Int32 → Prop) (_ : ∀ (v1 : Int32) (v2 : Int32) (H : Heap) (locs : List Loc) (ls : Array Slot), K0 v1 v2 → va_P D vwCl (wd_X0_differentCalls cI cZ cB cG q_t q_t_calling q_t_owned q_t_next t_places t_all t_calling) H → va_D A (wd_X0_differentCalls cI cZ cB cG q_t q_t_calling q_t_owned q_t_next t_places t_all t_calling) → va_S A s.heap H locs → lv_has ls 3 [(1, .int v1)] → W p l e (rm_X0_differentCalls) s m args below meth c H locs 0 0 Q (F0 m 28 ls []))  (n : Nat) (v1 : Int32) (v2 : Int32) (H : Heap) (locs : List Loc) (ls : Array Slot), fx2 (F_X0_differentCalls_4 t_calling K0) n v1 v2 → va_P D vwCl (wd_X0_differentCalls cI cZ cB cG q_t q_t_calling q_t_owned q_t_next t_places t_all t_calling) H → va_D A (wd_X0_differentCalls cI cZ cB cG q_t q_t_calling q_t_owned q_t_next t_places t_all t_calling) → va_S A s.heap H locs → lv_has ls 3 [(0, .ref q_t), (1, .int v1), (2, .int v2)] → W p l e (rm_X0_differentCalls) s m args below meth c H locs 0 0 Q (F0 m 4 ls []) := by
    intro K0 hK0 n
    induction n with
    | zero => intro v1 v2 H locs ls hf; exact (hf : False).elim
    | succ n ih =>
      intro v1 v2 H locs ls hf hP hD hS hl
      have hf : F_X0_differentCalls_4 t_calling K0 (fx2 (F_X0_differentCalls_4 t_calling K0) n) v1 v2 := hf
      unfold F_X0_differentCalls_4 at hf
      refine lv_iload_n hx hb dX0_differentCalls_4 rfl (lv_at hl 2 rfl) ?_
      refine lv_bipush (v := (10 : Int32)) hx hb dX0_differentCalls_5 (by decide) ?_
      refine lv_icmp_ge (tgt := 28) hx hb dX0_differentCalls_7 (by decide) (fun hc => ?_) (fun hc => ?_)
      · have hf := hf.1 hc
        exact hK0 _ _ _ _ _ hf hP hD hS (lv_sub hl [1] rfl)
      · have hf := hf.2 hc
        refine lv_aload_n hx hb dX0_differentCalls_10 rfl (lv_at hl 0 rfl) ?_
        refine va_get (D := D) (ci := 0) (v := .ref q_t_calling) (C := RX0) (T := TX0) (N := 5) hx hb hts hinX0 hown hK hP 0 rfl rfl 3 (by decide) k15 (fun _ h9 => h9) rfl dX0_differentCalls_11 ?_
        refine lv_iload_n hx hb dX0_differentCalls_14 rfl (lv_at hl 2 rfl) ?_
        refine va_iald hx hb hK hP 1 0 rfl rfl (n := 10) hf.1 dX0_differentCalls_15 ?_
        have hf := hf.2
        refine lv_if_eq (tgt := 22) hx hb dX0_differentCalls_16 (by decide) (fun hc => ?_) (fun hc => ?_)
        · have hf := hf.1 hc
          refine lv_iinc (v := (v2 + (1 : Int32))) (lv' := [(2, .int ((v2 + (1 : Int32)))), (0, .ref q_t), (1, .int v1)]) hx hb dX0_differentCalls_22 hl (k := 2) rfl rfl (by decide) rfl (fun ls hl => ?_)
          refine lv_goto (tgt := 4) hx hb dX0_differentCalls_25 (by decide) ?_
          exact ih _ _ _ _ _ hf hP hD hS (lv_sub hl [1, 2, 0] rfl)
        · have hf := hf.2 hc
          refine lv_iinc (v := (v1 + (1 : Int32))) (lv' := [(1, .int ((v1 + (1 : Int32)))), (0, .ref q_t), (2, .int v2)]) hx hb dX0_differentCalls_19 hl (k := 1) rfl rfl (by decide) rfl (fun ls hl => ?_)
          refine lv_iinc (v := (v2 + (1 : Int32))) (lv' := [(2, .int ((v2 + (1 : Int32)))), (1, .int ((v1 + (1 : Int32)))), (0, .ref q_t)]) hx hb dX0_differentCalls_22 hl (k := 2) rfl rfl (by decide) rfl (fun ls hl => ?_)
          refine lv_goto (tgt := 4) hx hb dX0_differentCalls_25 (by decide) ?_
          exact ih _ _ _ _ _ hf hP hD hS (lv_sub hl [2, 1, 0] rfl)
  unfold wp_X0_differentCalls at hf
  refine lv_iconst (v := (0 : Int32)) hx hb dX0_differentCalls_0 (by decide) ?_
  refine lv_istore_n (lv' := [(1, .int (0 : Int32)), (0, .ref q_t)]) hx hb dX0_differentCalls_1 rfl hl (by decide) rfl (fun ls hl => ?_)
  refine lv_iconst (v := (0 : Int32)) hx hb dX0_differentCalls_2 (by decide) ?_
  refine lv_istore_n (lv' := [(2, .int (0 : Int32)), (1, .int (0 : Int32)), (0, .ref q_t)]) hx hb dX0_differentCalls_3 rfl hl (by decide) rfl (fun ls hl => ?_)
  obtain ⟨n, hf⟩ := hf
  refine L4 _ ?_  n _ _ _ _ _ hf hP hD hS (lv_sub hl [2, 1, 0] rfl)
  intro v1_1 v2_2 H locs ls hf hP hD hS hl
  refine lv_iload_n hx hb dX0_differentCalls_28 rfl (lv_at hl 0 rfl) ?_
  exact hret v1_1 () hf hP hD hS dX0_differentCalls_29
abbrev wd_X0_deadEnds (cI cZ cB cG : ClassId) (q_t : Nat) (q_t_next : Nat) (q_t_owned : Nat) (q_t_calling : Nat) (t_places : Int32) (t_all : Int32) (t_next : (Nat → Int32)) : va_W := [(q_t, .inr (0, [.int t_places, .int t_all, .ref q_t_owned, .ref q_t_calling, .ref q_t_next])), (q_t_next, .inl (cI, 20, .inl t_next))]
def F_X0_deadEnds_4 (t_places : Int32) (t_next : (Nat → Int32)) (K0 : Int32 → Int32 → Prop) (rec : Int32 → Int32 → Prop) (v1 : Int32) (v2 : Int32) : Prop := ((t_places ≤ v2 → (K0 v1 v2)) ∧ (¬ (t_places ≤ v2) → (vp_in v2 20 ∧ ((¬ (t_next v2.toNatClampNeg) = (0 : Int32) → (rec v1 ((v2 + (1 : Int32))))) ∧ ((t_next v2.toNatClampNeg) = (0 : Int32) → (rec ((v1 ||| ((1 : Int32) <<< (v2 &&& 31)))) ((v2 + (1 : Int32)))))))))
def wp_X0_deadEnds (t_places : Int32) (t_next : (Nat → Int32)) (post : Int32 → Prop) : Prop := (∃ n, fx2 (F_X0_deadEnds_4 t_places t_next (fun v1_1 v2_2 => (post v1_1))) n (0 : Int32) (0 : Int32))
abbrev rm_X0_deadEnds : Room := { frames := 1, cells := 0, slots := 0, locals := 80 }
theorem in_X0_deadEnds_X0 : ∀ w ∈ u_ws RX0 TX0 5, w ∈ wsX0_deadEnds := by decide +kernel
theorem k_X0_deadEnds_18 : Cond.fieldLink RX0 18 "ParityGame$Board" "next" "[I" ∈ wsX0_deadEnds := by decide +kernel
theorem k_X0_deadEnds_27 : Cond.fieldLink RX0 27 "ParityGame$Board" "places" "I" ∈ wsX0_deadEnds := by decide +kernel
set_option maxHeartbeats 40000000 in
set_option maxRecDepth 100000 in
theorem c_X0_deadEnds (l : Launch) (D : va_G) (X : gX) (cI cZ cB cG : ClassId) (sz : Nat) (q_t : Nat) (q_t_next : Nat) (q_t_owned : Nat) (q_t_calling : Nat) (t_places : Int32) (t_all : Int32) (t_next : (Nat → Int32)) (post : Int32 → Prop) (hf : wp_X0_deadEnds t_places t_next post) : Met l yX0_deadEnds wsX0_deadEnds rm_X0_deadEnds (gP D X (gT cI cZ cB cG) sz [.ref q_t] (wd_X0_deadEnds cI cZ cB cG q_t q_t_next q_t_owned q_t_calling t_places t_all t_next)) (va_Qi (fun (r : Int32) (u : Unit) => post r) (fun u t => gB D (gT cI cZ cB cG) (va_A (wd_X0_deadEnds cI cZ cB cG q_t q_t_next q_t_owned q_t_calling t_places t_all t_next) sz) (wd_X0_deadEnds cI cZ cB cG q_t q_t_next q_t_owned q_t_calling t_places t_all t_next) t) (va_A (wd_X0_deadEnds cI cZ cB cG q_t q_t_next q_t_owned q_t_calling t_places t_all t_next) sz)) 0 0 (va_A (wd_X0_deadEnds cI cZ cB cG q_t q_t_next q_t_owned q_t_calling t_places t_all t_next) sz) := by
  refine g_ofWi (cc := cX0_deadEnds) (maxL := 3) (by decide +kernel) (Nat.le_of_ble_eq_true rfl) rfl ?_
  intro p e s m args below meth c A Q hx hb hml hown hts hA hK hE H hP hD hS ls hl hret
  have hinX0 := in_X0_deadEnds_X0
  have k18 := hts _ k_X0_deadEnds_18
  have k27 := hts _ k_X0_deadEnds_27
  have hl : lv_has ls 3 [(0, .ref q_t)] := hl
  have L4 : ∀ (K0 : Int32 → Int32 → Prop) (_ : ∀ (v1 : Int32) (v2 : Int32) (H : Heap) (locs : List Loc) (ls : Array Slot), K0 v1 v2 → va_P D vwCl (wd_X0_deadEnds cI cZ cB cG q_t q_t_next q_t_owned q_t_calling t_places t_all t_next) H → va_D A (wd_X0_deadEnds cI cZ cB cG q_t q_t_next q_t_owned q_t_calling t_places t_all t_next) → va_S A s.heap H locs → lv_has ls 3 [(1, .int v1)] → W p l e (rm_X0_deadEnds) s m args below meth c H locs 0 0 Q (F0 m 33 ls []))  (n : Nat) (v1 : Int32) (v2 : Int32) (H : Heap) (locs : List Loc) (ls : Array Slot), fx2 (F_X0_deadEnds_4 t_places t_next K0) n v1 v2 → va_P D vwCl (wd_X0_deadEnds cI cZ cB cG q_t q_t_next q_t_owned q_t_calling t_places t_all t_next) H → va_D A (wd_X0_deadEnds cI cZ cB cG q_t q_t_next q_t_owned q_t_calling t_places t_all t_next) → va_S A s.heap H locs → lv_has ls 3 [(0, .ref q_t), (1, .int v1), (2, .int v2)] → W p l e (rm_X0_deadEnds) s m args below meth c H locs 0 0 Q (F0 m 4 ls []) := by
    intro K0 hK0 n
    induction n with
    | zero => intro v1 v2 H locs ls hf; exact (hf : False).elim
    | succ n ih =>
      intro v1 v2 H locs ls hf hP hD hS hl
      have hf : F_X0_deadEnds_4 t_places t_next K0 (fx2 (F_X0_deadEnds_4 t_places t_next K0) n) v1 v2 := hf
      unfold F_X0_deadEnds_4 at hf
      refine lv_iload_n hx hb dX0_deadEnds_4 rfl (lv_at hl 2 rfl) ?_
      refine lv_aload_n hx hb dX0_deadEnds_5 rfl (lv_at hl 0 rfl) ?_
      refine va_get (D := D) (ci := 0) (v := .int t_places) (C := RX0) (T := TX0) (N := 5) hx hb hts hinX0 hown hK hP 0 rfl rfl 0 (by decide) k27 (fun _ h9 => h9) rfl dX0_deadEnds_6 ?_
      refine lv_icmp_ge (tgt := 33) hx hb dX0_deadEnds_9 (by decide) (fun hc => ?_) (fun hc => ?_)
      · have hf := hf.1 hc
        exact hK0 _ _ _ _ _ hf hP hD hS (lv_sub hl [1] rfl)
      · have hf := hf.2 hc
        refine lv_aload_n hx hb dX0_deadEnds_12 rfl (lv_at hl 0 rfl) ?_
        refine va_get (D := D) (ci := 0) (v := .ref q_t_next) (C := RX0) (T := TX0) (N := 5) hx hb hts hinX0 hown hK hP 0 rfl rfl 4 (by decide) k18 (fun _ h9 => h9) rfl dX0_deadEnds_13 ?_
        refine lv_iload_n hx hb dX0_deadEnds_16 rfl (lv_at hl 2 rfl) ?_
        refine va_iald hx hb hK hP 1 0 rfl rfl (n := 20) hf.1 dX0_deadEnds_17 ?_
        have hf := hf.2
        refine lv_if_ne (tgt := 27) hx hb dX0_deadEnds_18 (by decide) (fun hc => ?_) (fun hc => ?_)
        · have hf := hf.1 hc
          refine lv_iinc (v := (v2 + (1 : Int32))) (lv' := [(2, .int ((v2 + (1 : Int32)))), (0, .ref q_t), (1, .int v1)]) hx hb dX0_deadEnds_27 hl (k := 2) rfl rfl (by decide) rfl (fun ls hl => ?_)
          refine lv_goto (tgt := 4) hx hb dX0_deadEnds_30 (by decide) ?_
          exact ih _ _ _ _ _ hf hP hD hS (lv_sub hl [1, 2, 0] rfl)
        · have hf := hf.2 hc
          refine lv_iload_n hx hb dX0_deadEnds_21 rfl (lv_at hl 1 rfl) ?_
          refine lv_iconst (v := (1 : Int32)) hx hb dX0_deadEnds_22 (by decide) ?_
          refine lv_iload_n hx hb dX0_deadEnds_23 rfl (lv_at hl 2 rfl) ?_
          refine lv_ishl hx hb dX0_deadEnds_24 ?_
          refine lv_ior hx hb dX0_deadEnds_25 ?_
          refine lv_istore_n (lv' := [(1, .int ((v1 ||| ((1 : Int32) <<< (v2 &&& 31))))), (0, .ref q_t), (2, .int v2)]) hx hb dX0_deadEnds_26 rfl hl (by decide) rfl (fun ls hl => ?_)
          refine lv_iinc (v := (v2 + (1 : Int32))) (lv' := [(2, .int ((v2 + (1 : Int32)))), (1, .int ((v1 ||| ((1 : Int32) <<< (v2 &&& 31))))), (0, .ref q_t)]) hx hb dX0_deadEnds_27 hl (k := 2) rfl rfl (by decide) rfl (fun ls hl => ?_)
          refine lv_goto (tgt := 4) hx hb dX0_deadEnds_30 (by decide) ?_
          exact ih _ _ _ _ _ hf hP hD hS (lv_sub hl [2, 1, 0] rfl)
  unfold wp_X0_deadEnds at hf
  refine lv_iconst (v := (0 : Int32)) hx hb dX0_deadEnds_0 (by decide) ?_
  refine lv_istore_n (lv' := [(1, .int (0 : Int32)), (0, .ref q_t)]) hx hb dX0_deadEnds_1 rfl hl (by decide) rfl (fun ls hl => ?_)
  refine lv_iconst (v := (0 : Int32)) hx hb dX0_deadEnds_2 (by decide) ?_
  refine lv_istore_n (lv' := [(2, .int (0 : Int32)), (1, .int (0 : Int32)), (0, .ref q_t)]) hx hb dX0_deadEnds_3 rfl hl (by decide) rfl (fun ls hl => ?_)
  obtain ⟨n, hf⟩ := hf
  refine L4 _ ?_  n _ _ _ _ _ hf hP hD hS (lv_sub hl [2, 1, 0] rfl)
  intro v1_1 v2_2 H locs ls hf hP hD hS hl
  refine lv_iload_n hx hb dX0_deadEnds_33 rfl (lv_at hl 0 rfl) ?_
  exact hret v1_1 () hf hP hD hS dX0_deadEnds_34
abbrev wd_X0_greatestCall (cI cZ cB cG : ClassId) (q_t : Nat) (q_t_calling : Nat) (q_t_owned : Nat) (q_t_next : Nat) (t_places : Int32) (t_all : Int32) (t_calling : (Nat → Int32)) : va_W := [(q_t, .inr (0, [.int t_places, .int t_all, .ref q_t_owned, .ref q_t_calling, .ref q_t_next])), (q_t_calling, .inl (cI, 10, .inl t_calling))]
def F_X0_greatestCall_4 (v1 : Int32) (t_calling : (Nat → Int32)) (post : Int32 → Prop) (K0 : Int32 → Prop) (rec : Int32 → Prop) (v3 : Int32) : Prop := ((v3 < (0 : Int32) → (K0 v3)) ∧ (¬ (v3 < (0 : Int32)) → (vp_in v3 10 ∧ ((((t_calling v3.toNatClampNeg) &&& v1) = (0 : Int32) → (rec ((v3 + (-1 : Int32))))) ∧ (¬ (((t_calling v3.toNatClampNeg) &&& v1) = (0 : Int32)) → (post v3))))))
def wp_X0_greatestCall (a1 : Int32) (a2 : Int32) (t_calling : (Nat → Int32)) (post : Int32 → Prop) : Prop := (∃ n, fx1 (F_X0_greatestCall_4 a1 t_calling post (fun v3_1 => (post (-1 : Int32)))) n ((a2 - (1 : Int32))))
abbrev rm_X0_greatestCall : Room := { frames := 1, cells := 0, slots := 0, locals := 80 }
theorem in_X0_greatestCall_X0 : ∀ w ∈ u_ws RX0 TX0 5, w ∈ wsX0_greatestCall := by decide +kernel
theorem k_X0_greatestCall_15 : Cond.fieldLink RX0 15 "ParityGame$Board" "calling" "[I" ∈ wsX0_greatestCall := by decide +kernel
set_option maxHeartbeats 40000000 in
set_option maxRecDepth 100000 in
theorem c_X0_greatestCall (l : Launch) (D : va_G) (X : gX) (cI cZ cB cG : ClassId) (sz : Nat) (q_t : Nat) (q_t_calling : Nat) (q_t_owned : Nat) (q_t_next : Nat) (a1 : Int32) (a2 : Int32) (t_places : Int32) (t_all : Int32) (t_calling : (Nat → Int32)) (post : Int32 → Prop) (hf : wp_X0_greatestCall a1 a2 t_calling post) : Met l yX0_greatestCall wsX0_greatestCall rm_X0_greatestCall (gP D X (gT cI cZ cB cG) sz [.ref q_t, .int a1, .int a2] (wd_X0_greatestCall cI cZ cB cG q_t q_t_calling q_t_owned q_t_next t_places t_all t_calling)) (va_Qi (fun (r : Int32) (u : Unit) => post r) (fun u t => gB D (gT cI cZ cB cG) (va_A (wd_X0_greatestCall cI cZ cB cG q_t q_t_calling q_t_owned q_t_next t_places t_all t_calling) sz) (wd_X0_greatestCall cI cZ cB cG q_t q_t_calling q_t_owned q_t_next t_places t_all t_calling) t) (va_A (wd_X0_greatestCall cI cZ cB cG q_t q_t_calling q_t_owned q_t_next t_places t_all t_calling) sz)) 0 0 (va_A (wd_X0_greatestCall cI cZ cB cG q_t q_t_calling q_t_owned q_t_next t_places t_all t_calling) sz) := by
  refine g_ofWi (cc := cX0_greatestCall) (maxL := 4) (by decide +kernel) (Nat.le_of_ble_eq_true rfl) rfl ?_
  intro p e s m args below meth c A Q hx hb hml hown hts hA hK hE H hP hD hS ls hl hret
  have hinX0 := in_X0_greatestCall_X0
  have k15 := hts _ k_X0_greatestCall_15
  have hl : lv_has ls 4 [(0, .ref q_t), (1, .int a1), (2, .int a2)] := hl
  have L4 : ∀ (v1 : Int32) (K0 : Int32 → Prop) (_ : ∀ (v3 : Int32) (H : Heap) (locs : List Loc) (ls : Array Slot), K0 v3 → va_P D vwCl (wd_X0_greatestCall cI cZ cB cG q_t q_t_calling q_t_owned q_t_next t_places t_all t_calling) H → va_D A (wd_X0_greatestCall cI cZ cB cG q_t q_t_calling q_t_owned q_t_next t_places t_all t_calling) → va_S A s.heap H locs → lv_has ls 4 [] → W p l e (rm_X0_greatestCall) s m args below meth c H locs 0 0 Q (F0 m 27 ls []))  (n : Nat) (v3 : Int32) (H : Heap) (locs : List Loc) (ls : Array Slot), fx1 (F_X0_greatestCall_4 v1 t_calling post K0) n v3 → va_P D vwCl (wd_X0_greatestCall cI cZ cB cG q_t q_t_calling q_t_owned q_t_next t_places t_all t_calling) H → va_D A (wd_X0_greatestCall cI cZ cB cG q_t q_t_calling q_t_owned q_t_next t_places t_all t_calling) → va_S A s.heap H locs → lv_has ls 4 [(0, .ref q_t), (1, .int v1), (3, .int v3)] → W p l e (rm_X0_greatestCall) s m args below meth c H locs 0 0 Q (F0 m 4 ls []) := by
    intro v1 K0 hK0 n
    induction n with
    | zero => intro v3 H locs ls hf; exact (hf : False).elim
    | succ n ih =>
      intro v3 H locs ls hf hP hD hS hl
      have hf : F_X0_greatestCall_4 v1 t_calling post K0 (fx1 (F_X0_greatestCall_4 v1 t_calling post K0) n) v3 := hf
      unfold F_X0_greatestCall_4 at hf
      refine lv_iload_n hx hb dX0_greatestCall_4 rfl (lv_at hl 2 rfl) ?_
      refine lv_if_lt (tgt := 27) hx hb dX0_greatestCall_5 (by decide) (fun hc => ?_) (fun hc => ?_)
      · have hf := hf.1 hc
        exact hK0 _ _ _ _ hf hP hD hS (lv_sub hl [] rfl)
      · have hf := hf.2 hc
        refine lv_aload_n hx hb dX0_greatestCall_8 rfl (lv_at hl 0 rfl) ?_
        refine va_get (D := D) (ci := 0) (v := .ref q_t_calling) (C := RX0) (T := TX0) (N := 5) hx hb hts hinX0 hown hK hP 0 rfl rfl 3 (by decide) k15 (fun _ h9 => h9) rfl dX0_greatestCall_9 ?_
        refine lv_iload_n hx hb dX0_greatestCall_12 rfl (lv_at hl 2 rfl) ?_
        refine va_iald hx hb hK hP 1 0 rfl rfl (n := 10) hf.1 dX0_greatestCall_13 ?_
        have hf := hf.2
        refine lv_iload_n hx hb dX0_greatestCall_14 rfl (lv_at hl 1 rfl) ?_
        refine lv_iand hx hb dX0_greatestCall_15 ?_
        refine lv_if_eq (tgt := 21) hx hb dX0_greatestCall_16 (by decide) (fun hc => ?_) (fun hc => ?_)
        · have hf := hf.1 hc
          refine lv_iinc (v := (v3 + (-1 : Int32))) (lv' := [(3, .int ((v3 + (-1 : Int32)))), (0, .ref q_t), (1, .int v1)]) hx hb dX0_greatestCall_21 hl (k := 2) rfl rfl (by decide) rfl (fun ls hl => ?_)
          refine lv_goto (tgt := 4) hx hb dX0_greatestCall_24 (by decide) ?_
          exact ih _ _ _ _ hf hP hD hS (lv_sub hl [1, 2, 0] rfl)
        · have hf := hf.2 hc
          refine lv_iload_n hx hb dX0_greatestCall_19 rfl (lv_at hl 2 rfl) ?_
          exact hret v3 () hf hP hD hS dX0_greatestCall_20
  unfold wp_X0_greatestCall at hf
  refine lv_iload_n hx hb dX0_greatestCall_0 rfl (lv_at hl 2 rfl) ?_
  refine lv_iconst (v := (1 : Int32)) hx hb dX0_greatestCall_1 (by decide) ?_
  refine lv_isub hx hb dX0_greatestCall_2 ?_
  refine lv_istore_n (lv' := [(3, .int ((a2 - (1 : Int32)))), (0, .ref q_t), (1, .int a1), (2, .int a2)]) hx hb dX0_greatestCall_3 rfl hl (by decide) rfl (fun ls hl => ?_)
  obtain ⟨n, hf⟩ := hf
  refine L4 a1 _ ?_  n _ _ _ _ hf hP hD hS (lv_sub hl [1, 2, 0] rfl)
  intro v3_1 H locs ls hf hP hD hS hl
  refine lv_iconst (v := (-1 : Int32)) hx hb dX0_greatestCall_27 (by decide) ?_
  exact hret (-1 : Int32) () hf hP hD hS dX0_greatestCall_28
abbrev wd_X0_take (cI cZ cB cG : ClassId) (q_o1 : Nat) (q_t : Nat) (q_o1_calls : Nat) (q_o1_from : Nat) (q_o1_to : Nat) (q_t_calling : Nat) (q_t_next : Nat) (q_t_owned : Nat) (q_o1_heard : Nat) (o1_places : Int32) (o1_odd : Int32) (o1_moves : Int32) (o1_token : Int32) (o1_made : Int32) (t_places : Int32) (t_all : Int32) (o1_calls : (Nat → Int32)) (o1_from : (Nat → Int32)) (o1_to : (Nat → Int32)) (t_calling : (Nat → Int32)) (t_next : (Nat → Int32)) (t_owned : (Nat → Int32)) : va_W := [(q_o1, .inr (1, [.int o1_places, .int o1_odd, .ref q_o1_calls, .int o1_moves, .ref q_o1_from, .ref q_o1_to, .int o1_token, .int o1_made, .ref q_o1_heard])), (q_t, .inr (0, [.int t_places, .int t_all, .ref q_t_owned, .ref q_t_calling, .ref q_t_next])), (q_o1_calls, .inl (cI, 20, .inl o1_calls)), (q_o1_from, .inl (cI, 60, .inl o1_from)), (q_o1_to, .inl (cI, 60, .inl o1_to)), (q_t_calling, .inl (cI, 10, .inl t_calling)), (q_t_next, .inl (cI, 20, .inl t_next)), (q_t_owned, .inl (cI, 2, .inl t_owned))]
def F_X0_take_54 (K0 : Int32 → (Nat → Int32) → Prop) (rec : Int32 → (Nat → Int32) → Prop) (v2 : Int32) (t_calling : (Nat → Int32)) : Prop := (((10 : Int32) ≤ v2 → (K0 v2 t_calling)) ∧ (¬ ((10 : Int32) ≤ v2) → (vp_in v2 10 ∧ (rec ((v2 + (1 : Int32))) ((upd t_calling v2.toNatClampNeg (0 : Int32)))))))
def F_X0_take_75 (t_places : Int32) (o1_calls : (Nat → Int32)) (K0 : Int32 → (Nat → Int32) → (Nat → Int32) → Prop) (rec : Int32 → (Nat → Int32) → (Nat → Int32) → Prop) (v2 : Int32) (t_calling : (Nat → Int32)) (t_next : (Nat → Int32)) : Prop := ((t_places ≤ v2 → (K0 v2 t_calling t_next)) ∧ (¬ (t_places ≤ v2) → (vp_in v2 20 ∧ (vp_in (o1_calls v2.toNatClampNeg) 10 ∧ (vp_in (o1_calls v2.toNatClampNeg) 10 ∧ (vp_in v2 20 ∧ (rec ((v2 + (1 : Int32))) ((upd t_calling (o1_calls v2.toNatClampNeg).toNatClampNeg (((t_calling (o1_calls v2.toNatClampNeg).toNatClampNeg) ||| ((1 : Int32) <<< (v2 &&& 31)))))) ((upd t_next v2.toNatClampNeg (0 : Int32))))))))))
def F_X0_take_115 (o1_moves : Int32) (o1_from : (Nat → Int32)) (o1_to : (Nat → Int32)) (K0 : Int32 → (Nat → Int32) → Prop) (rec : Int32 → (Nat → Int32) → Prop) (v2 : Int32) (t_next : (Nat → Int32)) : Prop := ((o1_moves ≤ v2 → (K0 v2 t_next)) ∧ (¬ (o1_moves ≤ v2) → (vp_in v2 60 ∧ (vp_in v2 60 ∧ (wp_X0_join (o1_from v2.toNatClampNeg) (o1_to v2.toNatClampNeg) t_next (fun t_next_6 => (rec ((v2 + (1 : Int32))) t_next_6)))))))
def wp_X0_take (o1_places : Int32) (o1_odd : Int32) (o1_moves : Int32) (o1_calls : (Nat → Int32)) (o1_from : (Nat → Int32)) (o1_to : (Nat → Int32)) (t_calling : (Nat → Int32)) (t_next : (Nat → Int32)) (t_owned : (Nat → Int32)) (post : Int32 → Int32 → (Nat → Int32) → (Nat → Int32) → (Nat → Int32) → Prop) : Prop := (∃ n, fx2 (F_X0_take_54 (fun v2_1 t_calling_2 => (∃ n, fx3 (F_X0_take_75 o1_places o1_calls (fun v2_3 t_calling_4 t_next_5 => (∃ n, fx2 (F_X0_take_115 o1_moves o1_from o1_to (fun v2_7 t_next_8 => (post o1_places ((((1 : Int32) <<< (o1_places &&& 31)) - (1 : Int32))) t_calling_4 t_next_8 ((upd ((upd t_owned 1 ((o1_odd &&& (((1 : Int32) <<< (o1_places &&& 31)) - (1 : Int32)))))) 0 (((((1 : Int32) <<< (o1_places &&& 31)) - (1 : Int32)) &&& (o1_odd ^^^ (-1 : Int32))))))))) n (0 : Int32) t_next_5))) n (0 : Int32) t_calling_2 t_next))) n (0 : Int32) t_calling)
abbrev rm_X0_take : Room := { frames := 2, cells := 0, slots := 0, locals := 102 }
theorem in_X0_take_X0 : ∀ w ∈ u_ws RX0 TX0 5, w ∈ wsX0_take := by decide +kernel
theorem in_X0_take_X1 : ∀ w ∈ u_ws RX1 TX1 9, w ∈ wsX0_take := by decide +kernel
theorem k_X0_take_9 : Cond.fieldLink RX0 9 "ParityGame$Board" "owned" "[I" ∈ wsX0_take := by decide +kernel
theorem k_X0_take_15 : Cond.fieldLink RX0 15 "ParityGame$Board" "calling" "[I" ∈ wsX0_take := by decide +kernel
theorem k_X0_take_18 : Cond.fieldLink RX0 18 "ParityGame$Board" "next" "[I" ∈ wsX0_take := by decide +kernel
theorem k_X0_take_27 : Cond.fieldLink RX0 27 "ParityGame$Board" "places" "I" ∈ wsX0_take := by decide +kernel
theorem k_X0_take_28 : Cond.fieldLink RX0 28 "ParityGame$Board" "all" "I" ∈ wsX0_take := by decide +kernel
theorem k_X0_take_21 : Cond.fieldLink RX0 21 "ParityGame$Game" "places" "I" ∈ wsX0_take := by decide +kernel
theorem k_X0_take_31 : Cond.fieldLink RX0 31 "ParityGame$Game" "odd" "I" ∈ wsX0_take := by decide +kernel
theorem k_X0_take_34 : Cond.fieldLink RX0 34 "ParityGame$Game" "calls" "[I" ∈ wsX0_take := by decide +kernel
theorem k_X0_take_37 : Cond.fieldLink RX0 37 "ParityGame$Game" "moves" "I" ∈ wsX0_take := by decide +kernel
theorem k_X0_take_40 : Cond.fieldLink RX0 40 "ParityGame$Game" "from" "[I" ∈ wsX0_take := by decide +kernel
theorem k_X0_take_43 : Cond.fieldLink RX0 43 "ParityGame$Game" "to" "[I" ∈ wsX0_take := by decide +kernel
set_option maxHeartbeats 40000000 in
set_option maxRecDepth 100000 in
theorem c_X0_take (l : Launch) (D : va_G) (X : gX) (cI cZ cB cG : ClassId) (sz : Nat) (q_o1 : Nat) (q_t : Nat) (q_o1_calls : Nat) (q_o1_from : Nat) (q_o1_to : Nat) (q_t_calling : Nat) (q_t_next : Nat) (q_t_owned : Nat) (q_o1_heard : Nat) (o1_places : Int32) (o1_odd : Int32) (o1_moves : Int32) (o1_token : Int32) (o1_made : Int32) (t_places : Int32) (t_all : Int32) (o1_calls : (Nat → Int32)) (o1_from : (Nat → Int32)) (o1_to : (Nat → Int32)) (t_calling : (Nat → Int32)) (t_next : (Nat → Int32)) (t_owned : (Nat → Int32)) (post : Int32 → Int32 → (Nat → Int32) → (Nat → Int32) → (Nat → Int32) → Prop) (hf : wp_X0_take o1_places o1_odd o1_moves o1_calls o1_from o1_to t_calling t_next t_owned post) : Met l yX0_take wsX0_take rm_X0_take (gP D X (gT cI cZ cB cG) sz [.ref q_t, .ref q_o1] (wd_X0_take cI cZ cB cG q_o1 q_t q_o1_calls q_o1_from q_o1_to q_t_calling q_t_next q_t_owned q_o1_heard o1_places o1_odd o1_moves o1_token o1_made t_places t_all o1_calls o1_from o1_to t_calling t_next t_owned)) (va_Qv (fun (u : Int32 × Int32 × (Nat → Int32) × (Nat → Int32) × (Nat → Int32)) => post u.1 u.2.1 u.2.2.1 u.2.2.2.1 u.2.2.2.2) (fun u t => gB D (gT cI cZ cB cG) (va_A (wd_X0_take cI cZ cB cG q_o1 q_t q_o1_calls q_o1_from q_o1_to q_t_calling q_t_next q_t_owned q_o1_heard o1_places o1_odd o1_moves o1_token o1_made t_places t_all o1_calls o1_from o1_to t_calling t_next t_owned) sz) (wd_X0_take cI cZ cB cG q_o1 q_t q_o1_calls q_o1_from q_o1_to q_t_calling q_t_next q_t_owned q_o1_heard o1_places o1_odd o1_moves o1_token o1_made u.1 u.2.1 o1_calls o1_from o1_to u.2.2.1 u.2.2.2.1 u.2.2.2.2) t) (va_A (wd_X0_take cI cZ cB cG q_o1 q_t q_o1_calls q_o1_from q_o1_to q_t_calling q_t_next q_t_owned q_o1_heard o1_places o1_odd o1_moves o1_token o1_made t_places t_all o1_calls o1_from o1_to t_calling t_next t_owned) sz)) 0 0 (va_A (wd_X0_take cI cZ cB cG q_o1 q_t q_o1_calls q_o1_from q_o1_to q_t_calling q_t_next q_t_owned q_o1_heard o1_places o1_odd o1_moves o1_token o1_made t_places t_all o1_calls o1_from o1_to t_calling t_next t_owned) sz) := by
  refine g_ofWv (cc := cX0_take) (maxL := 3) (by decide +kernel) (Nat.le_of_ble_eq_true rfl) rfl ?_
  intro p e s m args below meth c A Q hx hb hml hown hts hA hK hE H hP hD hS ls hl hret
  have hinX0 := in_X0_take_X0
  have hinX1 := in_X0_take_X1
  have k9 := hts _ k_X0_take_9
  have k15 := hts _ k_X0_take_15
  have k18 := hts _ k_X0_take_18
  have k27 := hts _ k_X0_take_27
  have k28 := hts _ k_X0_take_28
  have k21 := hts _ k_X0_take_21
  have k31 := hts _ k_X0_take_31
  have k34 := hts _ k_X0_take_34
  have k37 := hts _ k_X0_take_37
  have k40 := hts _ k_X0_take_40
  have k43 := hts _ k_X0_take_43
  have hl : lv_has ls 3 [(0, .ref q_t), (1, .ref q_o1)] := hl
  have L54 : ∀ (t_places : Int32) (t_all : Int32) (t_next : (Nat → Int32)) (t_owned : (Nat → Int32)) (K0 : Int32 → (Nat → Int32) → Prop) (_ : ∀ (v2 : Int32) (t_calling : (Nat → Int32)) (H : Heap) (locs : List Loc) (ls : Array Slot), K0 v2 t_calling → va_P D vwCl (wd_X0_take cI cZ cB cG q_o1 q_t q_o1_calls q_o1_from q_o1_to q_t_calling q_t_next q_t_owned q_o1_heard o1_places o1_odd o1_moves o1_token o1_made t_places t_all o1_calls o1_from o1_to t_calling t_next t_owned) H → va_D A (wd_X0_take cI cZ cB cG q_o1 q_t q_o1_calls q_o1_from q_o1_to q_t_calling q_t_next q_t_owned q_o1_heard o1_places o1_odd o1_moves o1_token o1_made t_places t_all o1_calls o1_from o1_to t_calling t_next t_owned) → va_S A s.heap H locs → lv_has ls 3 [(0, .ref q_t), (1, .ref q_o1)] → W p l e (rm_X0_take) s m args below meth c H locs 0 0 Q (F0 m 73 ls []))  (n : Nat) (v2 : Int32) (t_calling : (Nat → Int32)) (H : Heap) (locs : List Loc) (ls : Array Slot), fx2 (F_X0_take_54 K0) n v2 t_calling → va_P D vwCl (wd_X0_take cI cZ cB cG q_o1 q_t q_o1_calls q_o1_from q_o1_to q_t_calling q_t_next q_t_owned q_o1_heard o1_places o1_odd o1_moves o1_token o1_made t_places t_all o1_calls o1_from o1_to t_calling t_next t_owned) H → va_D A (wd_X0_take cI cZ cB cG q_o1 q_t q_o1_calls q_o1_from q_o1_to q_t_calling q_t_next q_t_owned q_o1_heard o1_places o1_odd o1_moves o1_token o1_made t_places t_all o1_calls o1_from o1_to t_calling t_next t_owned) → va_S A s.heap H locs → lv_has ls 3 [(0, .ref q_t), (1, .ref q_o1), (2, .int v2)] → W p l e (rm_X0_take) s m args below meth c H locs 0 0 Q (F0 m 54 ls []) := by
    intro t_places t_all t_next t_owned K0 hK0 n
    induction n with
    | zero => intro v2 t_calling H locs ls hf; exact (hf : False).elim
    | succ n ih =>
      intro v2 t_calling H locs ls hf hP hD hS hl
      have hf : F_X0_take_54 K0 (fx2 (F_X0_take_54 K0) n) v2 t_calling := hf
      unfold F_X0_take_54 at hf
      refine lv_iload_n hx hb dX0_take_54 rfl (lv_at hl 2 rfl) ?_
      refine lv_bipush (v := (10 : Int32)) hx hb dX0_take_55 (by decide) ?_
      refine lv_icmp_ge (tgt := 73) hx hb dX0_take_57 (by decide) (fun hc => ?_) (fun hc => ?_)
      · have hf := hf.1 hc
        exact hK0 _ _ _ _ _ hf hP hD hS (lv_sub hl [0, 1] rfl)
      · have hf := hf.2 hc
        refine lv_aload_n hx hb dX0_take_60 rfl (lv_at hl 0 rfl) ?_
        refine va_get (D := D) (ci := 0) (v := .ref q_t_calling) (C := RX0) (T := TX0) (N := 5) hx hb hts hinX0 hown hK hP 1 rfl rfl 3 (by decide) k15 (fun _ h9 => h9) rfl dX0_take_61 ?_
        refine lv_iload_n hx hb dX0_take_64 rfl (lv_at hl 2 rfl) ?_
        refine lv_iconst (v := (0 : Int32)) hx hb dX0_take_65 (by decide) ?_
        refine va_iast hx hb hK hP hD hS 5 0 rfl rfl (n := 10) hf.1 dX0_take_66 (fun H locs hP hD hS => ?_)
        have hf := hf.2
        have hP : va_P D vwCl (wd_X0_take cI cZ cB cG q_o1 q_t q_o1_calls q_o1_from q_o1_to q_t_calling q_t_next q_t_owned q_o1_heard o1_places o1_odd o1_moves o1_token o1_made t_places t_all o1_calls o1_from o1_to ((upd t_calling v2.toNatClampNeg (0 : Int32))) t_next t_owned) H := hP
        have hD : va_D A (wd_X0_take cI cZ cB cG q_o1 q_t q_o1_calls q_o1_from q_o1_to q_t_calling q_t_next q_t_owned q_o1_heard o1_places o1_odd o1_moves o1_token o1_made t_places t_all o1_calls o1_from o1_to ((upd t_calling v2.toNatClampNeg (0 : Int32))) t_next t_owned) := hD
        refine lv_iinc (v := (v2 + (1 : Int32))) (lv' := [(2, .int ((v2 + (1 : Int32)))), (0, .ref q_t), (1, .ref q_o1)]) hx hb dX0_take_67 hl (k := 2) rfl rfl (by decide) rfl (fun ls hl => ?_)
        refine lv_goto (tgt := 54) hx hb dX0_take_70 (by decide) ?_
        exact ih _ _ _ _ _ hf hP hD hS (lv_sub hl [1, 2, 0] rfl)
  have L75 : ∀ (t_places : Int32) (t_all : Int32) (t_owned : (Nat → Int32)) (K0 : Int32 → (Nat → Int32) → (Nat → Int32) → Prop) (_ : ∀ (v2 : Int32) (t_calling : (Nat → Int32)) (t_next : (Nat → Int32)) (H : Heap) (locs : List Loc) (ls : Array Slot), K0 v2 t_calling t_next → va_P D vwCl (wd_X0_take cI cZ cB cG q_o1 q_t q_o1_calls q_o1_from q_o1_to q_t_calling q_t_next q_t_owned q_o1_heard o1_places o1_odd o1_moves o1_token o1_made t_places t_all o1_calls o1_from o1_to t_calling t_next t_owned) H → va_D A (wd_X0_take cI cZ cB cG q_o1 q_t q_o1_calls q_o1_from q_o1_to q_t_calling q_t_next q_t_owned q_o1_heard o1_places o1_odd o1_moves o1_token o1_made t_places t_all o1_calls o1_from o1_to t_calling t_next t_owned) → va_S A s.heap H locs → lv_has ls 3 [(0, .ref q_t), (1, .ref q_o1)] → W p l e (rm_X0_take) s m args below meth c H locs 0 0 Q (F0 m 113 ls []))  (n : Nat) (v2 : Int32) (t_calling : (Nat → Int32)) (t_next : (Nat → Int32)) (H : Heap) (locs : List Loc) (ls : Array Slot), fx3 (F_X0_take_75 t_places o1_calls K0) n v2 t_calling t_next → va_P D vwCl (wd_X0_take cI cZ cB cG q_o1 q_t q_o1_calls q_o1_from q_o1_to q_t_calling q_t_next q_t_owned q_o1_heard o1_places o1_odd o1_moves o1_token o1_made t_places t_all o1_calls o1_from o1_to t_calling t_next t_owned) H → va_D A (wd_X0_take cI cZ cB cG q_o1 q_t q_o1_calls q_o1_from q_o1_to q_t_calling q_t_next q_t_owned q_o1_heard o1_places o1_odd o1_moves o1_token o1_made t_places t_all o1_calls o1_from o1_to t_calling t_next t_owned) → va_S A s.heap H locs → lv_has ls 3 [(0, .ref q_t), (1, .ref q_o1), (2, .int v2)] → W p l e (rm_X0_take) s m args below meth c H locs 0 0 Q (F0 m 75 ls []) := by
    intro t_places t_all t_owned K0 hK0 n
    induction n with
    | zero => intro v2 t_calling t_next H locs ls hf; exact (hf : False).elim
    | succ n ih =>
      intro v2 t_calling t_next H locs ls hf hP hD hS hl
      have hf : F_X0_take_75 t_places o1_calls K0 (fx3 (F_X0_take_75 t_places o1_calls K0) n) v2 t_calling t_next := hf
      unfold F_X0_take_75 at hf
      refine lv_iload_n hx hb dX0_take_75 rfl (lv_at hl 2 rfl) ?_
      refine lv_aload_n hx hb dX0_take_76 rfl (lv_at hl 0 rfl) ?_
      refine va_get (D := D) (ci := 0) (v := .int t_places) (C := RX0) (T := TX0) (N := 5) hx hb hts hinX0 hown hK hP 1 rfl rfl 0 (by decide) k27 (fun _ h9 => h9) rfl dX0_take_77 ?_
      refine lv_icmp_ge (tgt := 113) hx hb dX0_take_80 (by decide) (fun hc => ?_) (fun hc => ?_)
      · have hf := hf.1 hc
        exact hK0 _ _ _ _ _ _ hf hP hD hS (lv_sub hl [0, 1] rfl)
      · have hf := hf.2 hc
        refine lv_aload_n hx hb dX0_take_83 rfl (lv_at hl 0 rfl) ?_
        refine va_get (D := D) (ci := 0) (v := .ref q_t_calling) (C := RX0) (T := TX0) (N := 5) hx hb hts hinX0 hown hK hP 1 rfl rfl 3 (by decide) k15 (fun _ h9 => h9) rfl dX0_take_84 ?_
        refine lv_aload_n hx hb dX0_take_87 rfl (lv_at hl 1 rfl) ?_
        refine va_get (D := D) (ci := 1) (v := .ref q_o1_calls) (C := RX1) (T := TX1) (N := 9) hx hb hts hinX1 hown hK hP 0 rfl rfl 2 (by decide) k34 (fun _ h9 => h9) rfl dX0_take_88 ?_
        refine lv_iload_n hx hb dX0_take_91 rfl (lv_at hl 2 rfl) ?_
        refine va_iald hx hb hK hP 2 0 rfl rfl (n := 20) hf.1 dX0_take_92 ?_
        have hf := hf.2
        refine lv_dup2_11 hx hb dX0_take_93 rfl rfl ?_
        refine va_iald hx hb hK hP 5 0 rfl rfl (n := 10) hf.1 dX0_take_94 ?_
        have hf := hf.2
        refine lv_iconst (v := (1 : Int32)) hx hb dX0_take_95 (by decide) ?_
        refine lv_iload_n hx hb dX0_take_96 rfl (lv_at hl 2 rfl) ?_
        refine lv_ishl hx hb dX0_take_97 ?_
        refine lv_ior hx hb dX0_take_98 ?_
        refine va_iast hx hb hK hP hD hS 5 0 rfl rfl (n := 10) hf.1 dX0_take_99 (fun H locs hP hD hS => ?_)
        have hf := hf.2
        have hP : va_P D vwCl (wd_X0_take cI cZ cB cG q_o1 q_t q_o1_calls q_o1_from q_o1_to q_t_calling q_t_next q_t_owned q_o1_heard o1_places o1_odd o1_moves o1_token o1_made t_places t_all o1_calls o1_from o1_to ((upd t_calling (o1_calls v2.toNatClampNeg).toNatClampNeg (((t_calling (o1_calls v2.toNatClampNeg).toNatClampNeg) ||| ((1 : Int32) <<< (v2 &&& 31)))))) t_next t_owned) H := hP
        have hD : va_D A (wd_X0_take cI cZ cB cG q_o1 q_t q_o1_calls q_o1_from q_o1_to q_t_calling q_t_next q_t_owned q_o1_heard o1_places o1_odd o1_moves o1_token o1_made t_places t_all o1_calls o1_from o1_to ((upd t_calling (o1_calls v2.toNatClampNeg).toNatClampNeg (((t_calling (o1_calls v2.toNatClampNeg).toNatClampNeg) ||| ((1 : Int32) <<< (v2 &&& 31)))))) t_next t_owned) := hD
        refine lv_aload_n hx hb dX0_take_100 rfl (lv_at hl 0 rfl) ?_
        refine va_get (D := D) (ci := 0) (v := .ref q_t_next) (C := RX0) (T := TX0) (N := 5) hx hb hts hinX0 hown hK hP 1 rfl rfl 4 (by decide) k18 (fun _ h9 => h9) rfl dX0_take_101 ?_
        refine lv_iload_n hx hb dX0_take_104 rfl (lv_at hl 2 rfl) ?_
        refine lv_iconst (v := (0 : Int32)) hx hb dX0_take_105 (by decide) ?_
        refine va_iast hx hb hK hP hD hS 6 0 rfl rfl (n := 20) hf.1 dX0_take_106 (fun H locs hP hD hS => ?_)
        have hf := hf.2
        have hP : va_P D vwCl (wd_X0_take cI cZ cB cG q_o1 q_t q_o1_calls q_o1_from q_o1_to q_t_calling q_t_next q_t_owned q_o1_heard o1_places o1_odd o1_moves o1_token o1_made t_places t_all o1_calls o1_from o1_to ((upd t_calling (o1_calls v2.toNatClampNeg).toNatClampNeg (((t_calling (o1_calls v2.toNatClampNeg).toNatClampNeg) ||| ((1 : Int32) <<< (v2 &&& 31)))))) ((upd t_next v2.toNatClampNeg (0 : Int32))) t_owned) H := hP
        have hD : va_D A (wd_X0_take cI cZ cB cG q_o1 q_t q_o1_calls q_o1_from q_o1_to q_t_calling q_t_next q_t_owned q_o1_heard o1_places o1_odd o1_moves o1_token o1_made t_places t_all o1_calls o1_from o1_to ((upd t_calling (o1_calls v2.toNatClampNeg).toNatClampNeg (((t_calling (o1_calls v2.toNatClampNeg).toNatClampNeg) ||| ((1 : Int32) <<< (v2 &&& 31)))))) ((upd t_next v2.toNatClampNeg (0 : Int32))) t_owned) := hD
        refine lv_iinc (v := (v2 + (1 : Int32))) (lv' := [(2, .int ((v2 + (1 : Int32)))), (0, .ref q_t), (1, .ref q_o1)]) hx hb dX0_take_107 hl (k := 2) rfl rfl (by decide) rfl (fun ls hl => ?_)
        refine lv_goto (tgt := 75) hx hb dX0_take_110 (by decide) ?_
        exact ih _ _ _ _ _ _ hf hP hD hS (lv_sub hl [1, 2, 0] rfl)
  have L115 : ∀ (t_places : Int32) (t_all : Int32) (t_calling : (Nat → Int32)) (t_owned : (Nat → Int32)) (K0 : Int32 → (Nat → Int32) → Prop) (_ : ∀ (v2 : Int32) (t_next : (Nat → Int32)) (H : Heap) (locs : List Loc) (ls : Array Slot), K0 v2 t_next → va_P D vwCl (wd_X0_take cI cZ cB cG q_o1 q_t q_o1_calls q_o1_from q_o1_to q_t_calling q_t_next q_t_owned q_o1_heard o1_places o1_odd o1_moves o1_token o1_made t_places t_all o1_calls o1_from o1_to t_calling t_next t_owned) H → va_D A (wd_X0_take cI cZ cB cG q_o1 q_t q_o1_calls q_o1_from q_o1_to q_t_calling q_t_next q_t_owned q_o1_heard o1_places o1_odd o1_moves o1_token o1_made t_places t_all o1_calls o1_from o1_to t_calling t_next t_owned) → va_S A s.heap H locs → lv_has ls 3 [] → W p l e (rm_X0_take) s m args below meth c H locs 0 0 Q (F0 m 145 ls []))  (n : Nat) (v2 : Int32) (t_next : (Nat → Int32)) (H : Heap) (locs : List Loc) (ls : Array Slot), fx2 (F_X0_take_115 o1_moves o1_from o1_to K0) n v2 t_next → va_P D vwCl (wd_X0_take cI cZ cB cG q_o1 q_t q_o1_calls q_o1_from q_o1_to q_t_calling q_t_next q_t_owned q_o1_heard o1_places o1_odd o1_moves o1_token o1_made t_places t_all o1_calls o1_from o1_to t_calling t_next t_owned) H → va_D A (wd_X0_take cI cZ cB cG q_o1 q_t q_o1_calls q_o1_from q_o1_to q_t_calling q_t_next q_t_owned q_o1_heard o1_places o1_odd o1_moves o1_token o1_made t_places t_all o1_calls o1_from o1_to t_calling t_next t_owned) → va_S A s.heap H locs → lv_has ls 3 [(0, .ref q_t), (1, .ref q_o1), (2, .int v2)] → W p l e (rm_X0_take) s m args below meth c H locs 0 0 Q (F0 m 115 ls []) := by
    intro t_places t_all t_calling t_owned K0 hK0 n
    induction n with
    | zero => intro v2 t_next H locs ls hf; exact (hf : False).elim
    | succ n ih =>
      intro v2 t_next H locs ls hf hP hD hS hl
      have hf : F_X0_take_115 o1_moves o1_from o1_to K0 (fx2 (F_X0_take_115 o1_moves o1_from o1_to K0) n) v2 t_next := hf
      unfold F_X0_take_115 at hf
      refine lv_iload_n hx hb dX0_take_115 rfl (lv_at hl 2 rfl) ?_
      refine lv_aload_n hx hb dX0_take_116 rfl (lv_at hl 1 rfl) ?_
      refine va_get (D := D) (ci := 1) (v := .int o1_moves) (C := RX1) (T := TX1) (N := 9) hx hb hts hinX1 hown hK hP 0 rfl rfl 3 (by decide) k37 (fun _ h9 => h9) rfl dX0_take_117 ?_
      refine lv_icmp_ge (tgt := 145) hx hb dX0_take_120 (by decide) (fun hc => ?_) (fun hc => ?_)
      · have hf := hf.1 hc
        exact hK0 _ _ _ _ _ hf hP hD hS (lv_sub hl [] rfl)
      · have hf := hf.2 hc
        refine lv_aload_n hx hb dX0_take_123 rfl (lv_at hl 0 rfl) ?_
        refine lv_aload_n hx hb dX0_take_124 rfl (lv_at hl 1 rfl) ?_
        refine va_get (D := D) (ci := 1) (v := .ref q_o1_from) (C := RX1) (T := TX1) (N := 9) hx hb hts hinX1 hown hK hP 0 rfl rfl 4 (by decide) k40 (fun _ h9 => h9) rfl dX0_take_125 ?_
        refine lv_iload_n hx hb dX0_take_128 rfl (lv_at hl 2 rfl) ?_
        refine va_iald hx hb hK hP 3 0 rfl rfl (n := 60) hf.1 dX0_take_129 ?_
        have hf := hf.2
        refine lv_aload_n hx hb dX0_take_130 rfl (lv_at hl 1 rfl) ?_
        refine va_get (D := D) (ci := 1) (v := .ref q_o1_to) (C := RX1) (T := TX1) (N := 9) hx hb hts hinX1 hown hK hP 0 rfl rfl 5 (by decide) k43 (fun _ h9 => h9) rfl dX0_take_131 ?_
        refine lv_iload_n hx hb dX0_take_134 rfl (lv_at hl 2 rfl) ?_
        refine va_iald hx hb hK hP 4 0 rfl rfl (n := 60) hf.1 dX0_take_135 ?_
        have hf := hf.2
        have hPc := hP.sub (ws' := (wd_X0_join cI cZ cB cG q_t q_t_next q_t_owned q_t_calling t_places t_all t_next)) [1, 6] rfl
        have hDc := hD.sub (ws' := (wd_X0_join cI cZ cB cG q_t q_t_next q_t_owned q_t_calling t_places t_all t_next)) [1, 6] (by decide +kernel) rfl
        have hFc := va_free (wc := (wd_X0_join cI cZ cB cG q_t q_t_next q_t_owned q_t_calling t_places t_all t_next)) hD hS hA [1, 6] rfl
        refine va_callv (va_runV (As := [.int (o1_from v2.toNatClampNeg), .int (o1_to v2.toNatClampNeg)]) (rest := []) ⟨hx, hb, hml, hown, hts⟩ (c_X0_join l D X cI cZ cB cG H.size q_t q_t_next q_t_owned q_t_calling (o1_from v2.toNatClampNeg) (o1_to v2.toNatClampNeg) t_places t_all t_next _ hf) (cwV 2 hts gX0_take_X0_join rfl rfl rfl (by decide +kernel) ⟨Nat.le_of_ble_eq_true rfl, Nat.le_of_ble_eq_true rfl⟩) ⟨g_blind, va_recv hK hPc (ci := 0) (q0 := 0) rfl rfl, fun U hU hW => g_side hU hW hPc hK hDc hE hS hFc⟩ rfl rfl hl.1 rfl (lv_room (Nat.le_of_ble_eq_true rfl)) dX0_take_136 ⟨Nat.zero_le _, Nat.zero_le _⟩) hS (fun q _ h => hFc q h) hFc (fun u t H1 locs ht hvm hw hB hz1 hk1 hS => ?_)
        obtain ⟨t_next_6, rfl⟩ : ∃ z, z = u := ⟨_, rfl⟩
        obtain ⟨hP1, hK1, hD1⟩ := hB
        rw [ht] at hP1
        obtain ⟨hP, hD⟩ := g_back (wc := (wd_X0_join cI cZ cB cG q_t q_t_next q_t_owned q_t_calling t_places t_all t_next)) (w1 := (wd_X0_join cI cZ cB cG q_t q_t_next q_t_owned q_t_calling t_places t_all t_next_6)) hP hD [1, 6] rfl rfl hk1 hP1
        have hP : va_P D vwCl (wd_X0_take cI cZ cB cG q_o1 q_t q_o1_calls q_o1_from q_o1_to q_t_calling q_t_next q_t_owned q_o1_heard o1_places o1_odd o1_moves o1_token o1_made t_places t_all o1_calls o1_from o1_to t_calling t_next_6 t_owned) H1 := hP
        have hD : va_D A (wd_X0_take cI cZ cB cG q_o1 q_t q_o1_calls q_o1_from q_o1_to q_t_calling q_t_next q_t_owned q_o1_heard o1_places o1_odd o1_moves o1_token o1_made t_places t_all o1_calls o1_from o1_to t_calling t_next_6 t_owned) := hD
        have hf := hw
        generalize H1 = H at hP hS ⊢
        refine lv_iinc (v := (v2 + (1 : Int32))) (lv' := [(2, .int ((v2 + (1 : Int32)))), (0, .ref q_t), (1, .ref q_o1)]) hx hb dX0_take_139 hl (k := 2) rfl rfl (by decide) rfl (fun ls hl => ?_)
        refine lv_goto (tgt := 115) hx hb dX0_take_142 (by decide) ?_
        exact ih _ _ _ _ _ hf hP hD hS (lv_sub hl [1, 2, 0] rfl)
  unfold wp_X0_take at hf
  refine lv_aload_n hx hb dX0_take_0 rfl (lv_at hl 0 rfl) ?_
  refine lv_aload_n hx hb dX0_take_1 rfl (lv_at hl 1 rfl) ?_
  refine va_get (D := D) (ci := 1) (v := .int o1_places) (C := RX1) (T := TX1) (N := 9) hx hb hts hinX1 hown hK hP 0 rfl rfl 0 (by decide) k21 (fun _ h9 => h9) rfl dX0_take_2 ?_
  refine va_put (D := D) (ci := 0) (v := .int o1_places) (ty := .int) (C := RX0) (T := TX0) (N := 5) hx hb hts hinX0 tyX0 tyX0_ok nmX0 hown hK hP hD hS 1 rfl rfl 0 (by decide) k27 (fun _ h9 => h9) rfl (by decide +kernel) rfl rfl (Nat.le_of_ble_eq_true rfl) dX0_take_5 (fun H locs hP hD hS => ?_)
  have hP : va_P D vwCl (wd_X0_take cI cZ cB cG q_o1 q_t q_o1_calls q_o1_from q_o1_to q_t_calling q_t_next q_t_owned q_o1_heard o1_places o1_odd o1_moves o1_token o1_made o1_places t_all o1_calls o1_from o1_to t_calling t_next t_owned) H := hP
  have hD : va_D A (wd_X0_take cI cZ cB cG q_o1 q_t q_o1_calls q_o1_from q_o1_to q_t_calling q_t_next q_t_owned q_o1_heard o1_places o1_odd o1_moves o1_token o1_made o1_places t_all o1_calls o1_from o1_to t_calling t_next t_owned) := hD
  refine lv_aload_n hx hb dX0_take_8 rfl (lv_at hl 0 rfl) ?_
  refine lv_iconst (v := (1 : Int32)) hx hb dX0_take_9 (by decide) ?_
  refine lv_aload_n hx hb dX0_take_10 rfl (lv_at hl 0 rfl) ?_
  refine va_get (D := D) (ci := 0) (v := .int o1_places) (C := RX0) (T := TX0) (N := 5) hx hb hts hinX0 hown hK hP 1 rfl rfl 0 (by decide) k27 (fun _ h9 => h9) rfl dX0_take_11 ?_
  refine lv_ishl hx hb dX0_take_14 ?_
  refine lv_iconst (v := (1 : Int32)) hx hb dX0_take_15 (by decide) ?_
  refine lv_isub hx hb dX0_take_16 ?_
  refine va_put (D := D) (ci := 0) (v := .int ((((1 : Int32) <<< (o1_places &&& 31)) - (1 : Int32)))) (ty := .int) (C := RX0) (T := TX0) (N := 5) hx hb hts hinX0 tyX0 tyX0_ok nmX0 hown hK hP hD hS 1 rfl rfl 1 (by decide) k28 (fun _ h9 => h9) rfl (by decide +kernel) rfl rfl (Nat.le_of_ble_eq_true rfl) dX0_take_17 (fun H locs hP hD hS => ?_)
  have hP : va_P D vwCl (wd_X0_take cI cZ cB cG q_o1 q_t q_o1_calls q_o1_from q_o1_to q_t_calling q_t_next q_t_owned q_o1_heard o1_places o1_odd o1_moves o1_token o1_made o1_places ((((1 : Int32) <<< (o1_places &&& 31)) - (1 : Int32))) o1_calls o1_from o1_to t_calling t_next t_owned) H := hP
  have hD : va_D A (wd_X0_take cI cZ cB cG q_o1 q_t q_o1_calls q_o1_from q_o1_to q_t_calling q_t_next q_t_owned q_o1_heard o1_places o1_odd o1_moves o1_token o1_made o1_places ((((1 : Int32) <<< (o1_places &&& 31)) - (1 : Int32))) o1_calls o1_from o1_to t_calling t_next t_owned) := hD
  refine lv_aload_n hx hb dX0_take_20 rfl (lv_at hl 0 rfl) ?_
  refine va_get (D := D) (ci := 0) (v := .ref q_t_owned) (C := RX0) (T := TX0) (N := 5) hx hb hts hinX0 hown hK hP 1 rfl rfl 2 (by decide) k9 (fun _ h9 => h9) rfl dX0_take_21 ?_
  refine lv_iconst (v := (1 : Int32)) hx hb dX0_take_24 (by decide) ?_
  refine lv_aload_n hx hb dX0_take_25 rfl (lv_at hl 1 rfl) ?_
  refine va_get (D := D) (ci := 1) (v := .int o1_odd) (C := RX1) (T := TX1) (N := 9) hx hb hts hinX1 hown hK hP 0 rfl rfl 1 (by decide) k31 (fun _ h9 => h9) rfl dX0_take_26 ?_
  refine lv_aload_n hx hb dX0_take_29 rfl (lv_at hl 0 rfl) ?_
  refine va_get (D := D) (ci := 0) (v := .int ((((1 : Int32) <<< (o1_places &&& 31)) - (1 : Int32)))) (C := RX0) (T := TX0) (N := 5) hx hb hts hinX0 hown hK hP 1 rfl rfl 1 (by decide) k28 (fun _ h9 => h9) rfl dX0_take_30 ?_
  refine lv_iand hx hb dX0_take_33 ?_
  refine va_iast hx hb hK hP hD hS 7 0 rfl rfl (n := 2) (by unfold vp_in; decide) dX0_take_34 (fun H locs hP hD hS => ?_)
  have hP : va_P D vwCl (wd_X0_take cI cZ cB cG q_o1 q_t q_o1_calls q_o1_from q_o1_to q_t_calling q_t_next q_t_owned q_o1_heard o1_places o1_odd o1_moves o1_token o1_made o1_places ((((1 : Int32) <<< (o1_places &&& 31)) - (1 : Int32))) o1_calls o1_from o1_to t_calling t_next ((upd t_owned 1 ((o1_odd &&& (((1 : Int32) <<< (o1_places &&& 31)) - (1 : Int32))))))) H := hP
  have hD : va_D A (wd_X0_take cI cZ cB cG q_o1 q_t q_o1_calls q_o1_from q_o1_to q_t_calling q_t_next q_t_owned q_o1_heard o1_places o1_odd o1_moves o1_token o1_made o1_places ((((1 : Int32) <<< (o1_places &&& 31)) - (1 : Int32))) o1_calls o1_from o1_to t_calling t_next ((upd t_owned 1 ((o1_odd &&& (((1 : Int32) <<< (o1_places &&& 31)) - (1 : Int32))))))) := hD
  refine lv_aload_n hx hb dX0_take_35 rfl (lv_at hl 0 rfl) ?_
  refine va_get (D := D) (ci := 0) (v := .ref q_t_owned) (C := RX0) (T := TX0) (N := 5) hx hb hts hinX0 hown hK hP 1 rfl rfl 2 (by decide) k9 (fun _ h9 => h9) rfl dX0_take_36 ?_
  refine lv_iconst (v := (0 : Int32)) hx hb dX0_take_39 (by decide) ?_
  refine lv_aload_n hx hb dX0_take_40 rfl (lv_at hl 0 rfl) ?_
  refine va_get (D := D) (ci := 0) (v := .int ((((1 : Int32) <<< (o1_places &&& 31)) - (1 : Int32)))) (C := RX0) (T := TX0) (N := 5) hx hb hts hinX0 hown hK hP 1 rfl rfl 1 (by decide) k28 (fun _ h9 => h9) rfl dX0_take_41 ?_
  refine lv_aload_n hx hb dX0_take_44 rfl (lv_at hl 1 rfl) ?_
  refine va_get (D := D) (ci := 1) (v := .int o1_odd) (C := RX1) (T := TX1) (N := 9) hx hb hts hinX1 hown hK hP 0 rfl rfl 1 (by decide) k31 (fun _ h9 => h9) rfl dX0_take_45 ?_
  refine lv_iconst (v := (-1 : Int32)) hx hb dX0_take_48 (by decide) ?_
  refine lv_ixor hx hb dX0_take_49 ?_
  refine lv_iand hx hb dX0_take_50 ?_
  refine va_iast hx hb hK hP hD hS 7 0 rfl rfl (n := 2) (by unfold vp_in; decide) dX0_take_51 (fun H locs hP hD hS => ?_)
  have hP : va_P D vwCl (wd_X0_take cI cZ cB cG q_o1 q_t q_o1_calls q_o1_from q_o1_to q_t_calling q_t_next q_t_owned q_o1_heard o1_places o1_odd o1_moves o1_token o1_made o1_places ((((1 : Int32) <<< (o1_places &&& 31)) - (1 : Int32))) o1_calls o1_from o1_to t_calling t_next ((upd ((upd t_owned 1 ((o1_odd &&& (((1 : Int32) <<< (o1_places &&& 31)) - (1 : Int32)))))) 0 (((((1 : Int32) <<< (o1_places &&& 31)) - (1 : Int32)) &&& (o1_odd ^^^ (-1 : Int32))))))) H := hP
  have hD : va_D A (wd_X0_take cI cZ cB cG q_o1 q_t q_o1_calls q_o1_from q_o1_to q_t_calling q_t_next q_t_owned q_o1_heard o1_places o1_odd o1_moves o1_token o1_made o1_places ((((1 : Int32) <<< (o1_places &&& 31)) - (1 : Int32))) o1_calls o1_from o1_to t_calling t_next ((upd ((upd t_owned 1 ((o1_odd &&& (((1 : Int32) <<< (o1_places &&& 31)) - (1 : Int32)))))) 0 (((((1 : Int32) <<< (o1_places &&& 31)) - (1 : Int32)) &&& (o1_odd ^^^ (-1 : Int32))))))) := hD
  refine lv_iconst (v := (0 : Int32)) hx hb dX0_take_52 (by decide) ?_
  refine lv_istore_n (lv' := [(2, .int (0 : Int32)), (0, .ref q_t), (1, .ref q_o1)]) hx hb dX0_take_53 rfl hl (by decide) rfl (fun ls hl => ?_)
  obtain ⟨n, hf⟩ := hf
  refine L54 o1_places ((((1 : Int32) <<< (o1_places &&& 31)) - (1 : Int32))) t_next ((upd ((upd t_owned 1 ((o1_odd &&& (((1 : Int32) <<< (o1_places &&& 31)) - (1 : Int32)))))) 0 (((((1 : Int32) <<< (o1_places &&& 31)) - (1 : Int32)) &&& (o1_odd ^^^ (-1 : Int32)))))) _ ?_  n _ _ _ _ _ hf hP hD hS (lv_sub hl [1, 2, 0] rfl)
  intro v2_1 t_calling_2 H locs ls hf hP hD hS hl
  refine lv_iconst (v := (0 : Int32)) hx hb dX0_take_73 (by decide) ?_
  refine lv_istore_n (lv' := [(2, .int (0 : Int32)), (0, .ref q_t), (1, .ref q_o1)]) hx hb dX0_take_74 rfl hl (by decide) rfl (fun ls hl => ?_)
  obtain ⟨n, hf⟩ := hf
  refine L75 o1_places ((((1 : Int32) <<< (o1_places &&& 31)) - (1 : Int32))) ((upd ((upd t_owned 1 ((o1_odd &&& (((1 : Int32) <<< (o1_places &&& 31)) - (1 : Int32)))))) 0 (((((1 : Int32) <<< (o1_places &&& 31)) - (1 : Int32)) &&& (o1_odd ^^^ (-1 : Int32)))))) _ ?_  n _ _ _ _ _ _ hf hP hD hS (lv_sub hl [1, 2, 0] rfl)
  intro v2_3 t_calling_4 t_next_5 H locs ls hf hP hD hS hl
  refine lv_iconst (v := (0 : Int32)) hx hb dX0_take_113 (by decide) ?_
  refine lv_istore_n (lv' := [(2, .int (0 : Int32)), (0, .ref q_t), (1, .ref q_o1)]) hx hb dX0_take_114 rfl hl (by decide) rfl (fun ls hl => ?_)
  obtain ⟨n, hf⟩ := hf
  refine L115 o1_places ((((1 : Int32) <<< (o1_places &&& 31)) - (1 : Int32))) t_calling_4 ((upd ((upd t_owned 1 ((o1_odd &&& (((1 : Int32) <<< (o1_places &&& 31)) - (1 : Int32)))))) 0 (((((1 : Int32) <<< (o1_places &&& 31)) - (1 : Int32)) &&& (o1_odd ^^^ (-1 : Int32)))))) _ ?_  n _ _ _ _ _ hf hP hD hS (lv_sub hl [1, 2, 0] rfl)
  intro v2_7 t_next_8 H locs ls hf hP hD hS hl
  exact hret ((o1_places, (((1 : Int32) <<< (o1_places &&& 31)) - (1 : Int32)), t_calling_4, t_next_8, (upd ((upd t_owned 1 ((o1_odd &&& (((1 : Int32) <<< (o1_places &&& 31)) - (1 : Int32)))))) 0 (((((1 : Int32) <<< (o1_places &&& 31)) - (1 : Int32)) &&& (o1_odd ^^^ (-1 : Int32))))))) hf hP hD hS dX0_take_145
abbrev wd_X0_before (cI cZ cB cG : ClassId) (q_t : Nat) (q_t_next : Nat) (q_t_owned : Nat) (q_t_calling : Nat) (t_places : Int32) (t_all : Int32) (t_next : (Nat → Int32)) (t_owned : (Nat → Int32)) : va_W := [(q_t, .inr (0, [.int t_places, .int t_all, .ref q_t_owned, .ref q_t_calling, .ref q_t_next])), (q_t_next, .inl (cI, 20, .inl t_next)), (q_t_owned, .inl (cI, 2, .inl t_owned))]
def F_X0_before_6 (v1 : Int32) (v2 : Int32) (v3 : Int32) (v4 : Int32) (t_places : Int32) (t_next : (Nat → Int32)) (t_owned : (Nat → Int32)) (K0 : Int32 → Int32 → Prop) (rec : Int32 → Int32 → Prop) (v5 : Int32) (v6 : Int32) : Prop := ((t_places ≤ v6 → (K0 v5 v6)) ∧ (¬ (t_places ≤ v6) → (vp_in v6 20 ∧ (((v4 &&& ((1 : Int32) <<< (v6 &&& 31))) = (0 : Int32) → (rec v5 ((v6 + (1 : Int32))))) ∧ (¬ ((v4 &&& ((1 : Int32) <<< (v6 &&& 31))) = (0 : Int32)) → (((((t_next v6.toNatClampNeg) &&& v3) &&& v2) = (0 : Int32) → (rec v5 ((v6 + (1 : Int32))))) ∧ (¬ ((((t_next v6.toNatClampNeg) &&& v3) &&& v2) = (0 : Int32)) → (vp_in v1 2 ∧ ((((t_owned v1.toNatClampNeg) &&& ((1 : Int32) <<< (v6 &&& 31))) = (0 : Int32) → ((¬ (((t_next v6.toNatClampNeg) &&& v3) &&& (v2 ^^^ (-1 : Int32))) = (0 : Int32) → (rec v5 ((v6 + (1 : Int32))))) ∧ ((((t_next v6.toNatClampNeg) &&& v3) &&& (v2 ^^^ (-1 : Int32))) = (0 : Int32) → (rec ((v5 ||| ((1 : Int32) <<< (v6 &&& 31)))) ((v6 + (1 : Int32))))))) ∧ (¬ (((t_owned v1.toNatClampNeg) &&& ((1 : Int32) <<< (v6 &&& 31))) = (0 : Int32)) → (rec ((v5 ||| ((1 : Int32) <<< (v6 &&& 31)))) ((v6 + (1 : Int32))))))))))))))
def wp_X0_before (a1 : Int32) (a2 : Int32) (a3 : Int32) (a4 : Int32) (t_places : Int32) (t_next : (Nat → Int32)) (t_owned : (Nat → Int32)) (post : Int32 → Prop) : Prop := (∃ n, fx2 (F_X0_before_6 a1 a2 a3 a4 t_places t_next t_owned (fun v5_1 v6_2 => (post v5_1))) n (0 : Int32) (0 : Int32))
abbrev rm_X0_before : Room := { frames := 1, cells := 0, slots := 0, locals := 80 }
theorem in_X0_before_X0 : ∀ w ∈ u_ws RX0 TX0 5, w ∈ wsX0_before := by decide +kernel
theorem k_X0_before_9 : Cond.fieldLink RX0 9 "ParityGame$Board" "owned" "[I" ∈ wsX0_before := by decide +kernel
theorem k_X0_before_18 : Cond.fieldLink RX0 18 "ParityGame$Board" "next" "[I" ∈ wsX0_before := by decide +kernel
theorem k_X0_before_27 : Cond.fieldLink RX0 27 "ParityGame$Board" "places" "I" ∈ wsX0_before := by decide +kernel
set_option maxHeartbeats 40000000 in
set_option maxRecDepth 100000 in
theorem c_X0_before (l : Launch) (D : va_G) (X : gX) (cI cZ cB cG : ClassId) (sz : Nat) (q_t : Nat) (q_t_next : Nat) (q_t_owned : Nat) (q_t_calling : Nat) (a1 : Int32) (a2 : Int32) (a3 : Int32) (a4 : Int32) (t_places : Int32) (t_all : Int32) (t_next : (Nat → Int32)) (t_owned : (Nat → Int32)) (post : Int32 → Prop) (hf : wp_X0_before a1 a2 a3 a4 t_places t_next t_owned post) : Met l yX0_before wsX0_before rm_X0_before (gP D X (gT cI cZ cB cG) sz [.ref q_t, .int a1, .int a2, .int a3, .int a4] (wd_X0_before cI cZ cB cG q_t q_t_next q_t_owned q_t_calling t_places t_all t_next t_owned)) (va_Qi (fun (r : Int32) (u : Unit) => post r) (fun u t => gB D (gT cI cZ cB cG) (va_A (wd_X0_before cI cZ cB cG q_t q_t_next q_t_owned q_t_calling t_places t_all t_next t_owned) sz) (wd_X0_before cI cZ cB cG q_t q_t_next q_t_owned q_t_calling t_places t_all t_next t_owned) t) (va_A (wd_X0_before cI cZ cB cG q_t q_t_next q_t_owned q_t_calling t_places t_all t_next t_owned) sz)) 0 0 (va_A (wd_X0_before cI cZ cB cG q_t q_t_next q_t_owned q_t_calling t_places t_all t_next t_owned) sz) := by
  refine g_ofWi (cc := cX0_before) (maxL := 10) (by decide +kernel) (Nat.le_of_ble_eq_true rfl) rfl ?_
  intro p e s m args below meth c A Q hx hb hml hown hts hA hK hE H hP hD hS ls hl hret
  have hinX0 := in_X0_before_X0
  have k9 := hts _ k_X0_before_9
  have k18 := hts _ k_X0_before_18
  have k27 := hts _ k_X0_before_27
  have hl : lv_has ls 10 [(0, .ref q_t), (1, .int a1), (2, .int a2), (3, .int a3), (4, .int a4)] := hl
  have L6 : ∀ (v1 : Int32) (v2 : Int32) (v3 : Int32) (v4 : Int32) (K0 : Int32 → Int32 → Prop) (_ : ∀ (v5 : Int32) (v6 : Int32) (H : Heap) (locs : List Loc) (ls : Array Slot), K0 v5 v6 → va_P D vwCl (wd_X0_before cI cZ cB cG q_t q_t_next q_t_owned q_t_calling t_places t_all t_next t_owned) H → va_D A (wd_X0_before cI cZ cB cG q_t q_t_next q_t_owned q_t_calling t_places t_all t_next t_owned) → va_S A s.heap H locs → lv_has ls 10 [(5, .int v5)] → W p l e (rm_X0_before) s m args below meth c H locs 0 0 Q (F0 m 93 ls []))  (n : Nat) (v5 : Int32) (v6 : Int32) (H : Heap) (locs : List Loc) (ls : Array Slot), fx2 (F_X0_before_6 v1 v2 v3 v4 t_places t_next t_owned K0) n v5 v6 → va_P D vwCl (wd_X0_before cI cZ cB cG q_t q_t_next q_t_owned q_t_calling t_places t_all t_next t_owned) H → va_D A (wd_X0_before cI cZ cB cG q_t q_t_next q_t_owned q_t_calling t_places t_all t_next t_owned) → va_S A s.heap H locs → lv_has ls 10 [(0, .ref q_t), (1, .int v1), (2, .int v2), (3, .int v3), (4, .int v4), (5, .int v5), (6, .int v6)] → W p l e (rm_X0_before) s m args below meth c H locs 0 0 Q (F0 m 6 ls []) := by
    intro v1 v2 v3 v4 K0 hK0 n
    induction n with
    | zero => intro v5 v6 H locs ls hf; exact (hf : False).elim
    | succ n ih =>
      intro v5 v6 H locs ls hf hP hD hS hl
      have hf : F_X0_before_6 v1 v2 v3 v4 t_places t_next t_owned K0 (fx2 (F_X0_before_6 v1 v2 v3 v4 t_places t_next t_owned K0) n) v5 v6 := hf
      unfold F_X0_before_6 at hf
      refine lv_iload hx hb dX0_before_6 (lv_at hl 6 rfl) ?_
      refine lv_aload_n hx hb dX0_before_8 rfl (lv_at hl 0 rfl) ?_
      refine va_get (D := D) (ci := 0) (v := .int t_places) (C := RX0) (T := TX0) (N := 5) hx hb hts hinX0 hown hK hP 0 rfl rfl 0 (by decide) k27 (fun _ h9 => h9) rfl dX0_before_9 ?_
      refine lv_icmp_ge (tgt := 93) hx hb dX0_before_12 (by decide) (fun hc => ?_) (fun hc => ?_)
      · have hf := hf.1 hc
        exact hK0 _ _ _ _ _ hf hP hD hS (lv_sub hl [5] rfl)
      · have hf := hf.2 hc
        refine lv_iconst (v := (1 : Int32)) hx hb dX0_before_15 (by decide) ?_
        refine lv_iload hx hb dX0_before_16 (lv_at hl 6 rfl) ?_
        refine lv_ishl hx hb dX0_before_18 ?_
        refine lv_istore (lv' := [(7, .int (((1 : Int32) <<< (v6 &&& 31)))), (0, .ref q_t), (1, .int v1), (2, .int v2), (3, .int v3), (4, .int v4), (5, .int v5), (6, .int v6)]) hx hb dX0_before_19 hl (by decide) rfl (fun ls hl => ?_)
        refine lv_aload_n hx hb dX0_before_21 rfl (lv_at hl 1 rfl) ?_
        refine va_get (D := D) (ci := 0) (v := .ref q_t_next) (C := RX0) (T := TX0) (N := 5) hx hb hts hinX0 hown hK hP 0 rfl rfl 4 (by decide) k18 (fun _ h9 => h9) rfl dX0_before_22 ?_
        refine lv_iload hx hb dX0_before_25 (lv_at hl 7 rfl) ?_
        refine va_iald hx hb hK hP 1 0 rfl rfl (n := 20) hf.1 dX0_before_27 ?_
        have hf := hf.2
        refine lv_iload_n hx hb dX0_before_28 rfl (lv_at hl 4 rfl) ?_
        refine lv_iand hx hb dX0_before_29 ?_
        refine lv_istore (lv' := [(8, .int (((t_next v6.toNatClampNeg) &&& v3))), (7, .int (((1 : Int32) <<< (v6 &&& 31)))), (0, .ref q_t), (1, .int v1), (2, .int v2), (3, .int v3), (4, .int v4), (5, .int v5), (6, .int v6)]) hx hb dX0_before_30 hl (by decide) rfl (fun ls hl => ?_)
        refine lv_iload hx hb dX0_before_32 (lv_at hl 6 rfl) ?_
        refine lv_iload hx hb dX0_before_34 (lv_at hl 1 rfl) ?_
        refine lv_iand hx hb dX0_before_36 ?_
        refine lv_if_eq (tgt := 87) hx hb dX0_before_37 (by decide) (fun hc => ?_) (fun hc => ?_)
        · have hf := hf.1 hc
          refine lv_iinc (v := (v6 + (1 : Int32))) (lv' := [(6, .int ((v6 + (1 : Int32)))), (8, .int (((t_next v6.toNatClampNeg) &&& v3))), (7, .int (((1 : Int32) <<< (v6 &&& 31)))), (0, .ref q_t), (1, .int v1), (2, .int v2), (3, .int v3), (4, .int v4), (5, .int v5)]) hx hb dX0_before_87 hl (k := 8) rfl rfl (by decide) rfl (fun ls hl => ?_)
          refine lv_goto (tgt := 6) hx hb dX0_before_90 (by decide) ?_
          exact ih _ _ _ _ _ hf hP hD hS (lv_sub hl [3, 4, 5, 6, 7, 8, 0] rfl)
        · have hf := hf.2 hc
          refine lv_iload hx hb dX0_before_40 (lv_at hl 0 rfl) ?_
          refine lv_iload_n hx hb dX0_before_42 rfl (lv_at hl 4 rfl) ?_
          refine lv_iand hx hb dX0_before_43 ?_
          refine lv_if_eq (tgt := 87) hx hb dX0_before_44 (by decide) (fun hc => ?_) (fun hc => ?_)
          · have hf := hf.1 hc
            refine lv_iinc (v := (v6 + (1 : Int32))) (lv' := [(6, .int ((v6 + (1 : Int32)))), (8, .int (((t_next v6.toNatClampNeg) &&& v3))), (7, .int (((1 : Int32) <<< (v6 &&& 31)))), (0, .ref q_t), (1, .int v1), (2, .int v2), (3, .int v3), (4, .int v4), (5, .int v5)]) hx hb dX0_before_87 hl (k := 8) rfl rfl (by decide) rfl (fun ls hl => ?_)
            refine lv_goto (tgt := 6) hx hb dX0_before_90 (by decide) ?_
            exact ih _ _ _ _ _ hf hP hD hS (lv_sub hl [3, 4, 5, 6, 7, 8, 0] rfl)
          · have hf := hf.2 hc
            refine lv_aload_n hx hb dX0_before_47 rfl (lv_at hl 2 rfl) ?_
            refine va_get (D := D) (ci := 0) (v := .ref q_t_owned) (C := RX0) (T := TX0) (N := 5) hx hb hts hinX0 hown hK hP 0 rfl rfl 2 (by decide) k9 (fun _ h9 => h9) rfl dX0_before_48 ?_
            refine lv_iload_n hx hb dX0_before_51 rfl (lv_at hl 3 rfl) ?_
            refine va_iald hx hb hK hP 2 0 rfl rfl (n := 2) hf.1 dX0_before_52 ?_
            have hf := hf.2
            refine lv_iload hx hb dX0_before_53 (lv_at hl 1 rfl) ?_
            refine lv_iand hx hb dX0_before_55 ?_
            refine lv_if_eq (tgt := 63) hx hb dX0_before_56 (by decide) (fun hc => ?_) (fun hc => ?_)
            · have hf := hf.1 hc
              refine lv_iconst (v := (0 : Int32)) hx hb dX0_before_63 (by decide) ?_
              refine lv_istore (lv' := [(9, .int (0 : Int32)), (8, .int (((t_next v6.toNatClampNeg) &&& v3))), (7, .int (((1 : Int32) <<< (v6 &&& 31)))), (0, .ref q_t), (1, .int v1), (2, .int v2), (3, .int v3), (4, .int v4), (5, .int v5), (6, .int v6)]) hx hb dX0_before_64 hl (by decide) rfl (fun ls hl => ?_)
              refine lv_iload hx hb dX0_before_66 (lv_at hl 0 rfl) ?_
              refine lv_if_ne (tgt := 80) hx hb dX0_before_68 (by decide) (fun hc => absurd (by decide) hc) (fun _ => ?_)
              refine lv_iload hx hb dX0_before_71 (lv_at hl 1 rfl) ?_
              refine lv_iload_n hx hb dX0_before_73 rfl (lv_at hl 5 rfl) ?_
              refine lv_iconst (v := (-1 : Int32)) hx hb dX0_before_74 (by decide) ?_
              refine lv_ixor hx hb dX0_before_75 ?_
              refine lv_iand hx hb dX0_before_76 ?_
              refine lv_if_ne (tgt := 87) hx hb dX0_before_77 (by decide) (fun hc => ?_) (fun hc => ?_)
              · have hf := hf.1 hc
                refine lv_iinc (v := (v6 + (1 : Int32))) (lv' := [(6, .int ((v6 + (1 : Int32)))), (9, .int (0 : Int32)), (8, .int (((t_next v6.toNatClampNeg) &&& v3))), (7, .int (((1 : Int32) <<< (v6 &&& 31)))), (0, .ref q_t), (1, .int v1), (2, .int v2), (3, .int v3), (4, .int v4), (5, .int v5)]) hx hb dX0_before_87 hl (k := 9) rfl rfl (by decide) rfl (fun ls hl => ?_)
                refine lv_goto (tgt := 6) hx hb dX0_before_90 (by decide) ?_
                exact ih _ _ _ _ _ hf hP hD hS (lv_sub hl [4, 5, 6, 7, 8, 9, 0] rfl)
              · have hf := hf.2 hc
                refine lv_iload hx hb dX0_before_80 (lv_at hl 8 rfl) ?_
                refine lv_iload hx hb dX0_before_82 (lv_at hl 2 rfl) ?_
                refine lv_ior hx hb dX0_before_84 ?_
                refine lv_istore (lv' := [(5, .int ((v5 ||| ((1 : Int32) <<< (v6 &&& 31))))), (9, .int (0 : Int32)), (8, .int (((t_next v6.toNatClampNeg) &&& v3))), (7, .int (((1 : Int32) <<< (v6 &&& 31)))), (0, .ref q_t), (1, .int v1), (2, .int v2), (3, .int v3), (4, .int v4), (6, .int v6)]) hx hb dX0_before_85 hl (by decide) rfl (fun ls hl => ?_)
                refine lv_iinc (v := (v6 + (1 : Int32))) (lv' := [(6, .int ((v6 + (1 : Int32)))), (5, .int ((v5 ||| ((1 : Int32) <<< (v6 &&& 31))))), (9, .int (0 : Int32)), (8, .int (((t_next v6.toNatClampNeg) &&& v3))), (7, .int (((1 : Int32) <<< (v6 &&& 31)))), (0, .ref q_t), (1, .int v1), (2, .int v2), (3, .int v3), (4, .int v4)]) hx hb dX0_before_87 hl (k := 9) rfl rfl (by decide) rfl (fun ls hl => ?_)
                refine lv_goto (tgt := 6) hx hb dX0_before_90 (by decide) ?_
                exact ih _ _ _ _ _ hf hP hD hS (lv_sub hl [5, 6, 7, 8, 9, 1, 0] rfl)
            · have hf := hf.2 hc
              refine lv_iconst (v := (1 : Int32)) hx hb dX0_before_59 (by decide) ?_
              refine lv_goto (tgt := 64) hx hb dX0_before_60 (by decide) ?_
              refine lv_istore (lv' := [(9, .int (1 : Int32)), (8, .int (((t_next v6.toNatClampNeg) &&& v3))), (7, .int (((1 : Int32) <<< (v6 &&& 31)))), (0, .ref q_t), (1, .int v1), (2, .int v2), (3, .int v3), (4, .int v4), (5, .int v5), (6, .int v6)]) hx hb dX0_before_64 hl (by decide) rfl (fun ls hl => ?_)
              refine lv_iload hx hb dX0_before_66 (lv_at hl 0 rfl) ?_
              refine lv_if_ne (tgt := 80) hx hb dX0_before_68 (by decide) (fun _ => ?_) (fun hc => absurd hc (by decide))
              refine lv_iload hx hb dX0_before_80 (lv_at hl 8 rfl) ?_
              refine lv_iload hx hb dX0_before_82 (lv_at hl 2 rfl) ?_
              refine lv_ior hx hb dX0_before_84 ?_
              refine lv_istore (lv' := [(5, .int ((v5 ||| ((1 : Int32) <<< (v6 &&& 31))))), (9, .int (1 : Int32)), (8, .int (((t_next v6.toNatClampNeg) &&& v3))), (7, .int (((1 : Int32) <<< (v6 &&& 31)))), (0, .ref q_t), (1, .int v1), (2, .int v2), (3, .int v3), (4, .int v4), (6, .int v6)]) hx hb dX0_before_85 hl (by decide) rfl (fun ls hl => ?_)
              refine lv_iinc (v := (v6 + (1 : Int32))) (lv' := [(6, .int ((v6 + (1 : Int32)))), (5, .int ((v5 ||| ((1 : Int32) <<< (v6 &&& 31))))), (9, .int (1 : Int32)), (8, .int (((t_next v6.toNatClampNeg) &&& v3))), (7, .int (((1 : Int32) <<< (v6 &&& 31)))), (0, .ref q_t), (1, .int v1), (2, .int v2), (3, .int v3), (4, .int v4)]) hx hb dX0_before_87 hl (k := 9) rfl rfl (by decide) rfl (fun ls hl => ?_)
              refine lv_goto (tgt := 6) hx hb dX0_before_90 (by decide) ?_
              exact ih _ _ _ _ _ hf hP hD hS (lv_sub hl [5, 6, 7, 8, 9, 1, 0] rfl)
  unfold wp_X0_before at hf
  refine lv_iconst (v := (0 : Int32)) hx hb dX0_before_0 (by decide) ?_
  refine lv_istore (lv' := [(5, .int (0 : Int32)), (0, .ref q_t), (1, .int a1), (2, .int a2), (3, .int a3), (4, .int a4)]) hx hb dX0_before_1 hl (by decide) rfl (fun ls hl => ?_)
  refine lv_iconst (v := (0 : Int32)) hx hb dX0_before_3 (by decide) ?_
  refine lv_istore (lv' := [(6, .int (0 : Int32)), (5, .int (0 : Int32)), (0, .ref q_t), (1, .int a1), (2, .int a2), (3, .int a3), (4, .int a4)]) hx hb dX0_before_4 hl (by decide) rfl (fun ls hl => ?_)
  obtain ⟨n, hf⟩ := hf
  refine L6 a1 a2 a3 a4 _ ?_  n _ _ _ _ _ hf hP hD hS (lv_sub hl [2, 3, 4, 5, 6, 1, 0] rfl)
  intro v5_1 v6_2 H locs ls hf hP hD hS hl
  refine lv_iload hx hb dX0_before_93 (lv_at hl 0 rfl) ?_
  exact hret v5_1 () hf hP hD hS dX0_before_95
abbrev wd_X0_attract (cI cZ cB cG : ClassId) (q_t : Nat) (q_t_next : Nat) (q_t_owned : Nat) (q_t_calling : Nat) (t_places : Int32) (t_all : Int32) (t_next : (Nat → Int32)) (t_owned : (Nat → Int32)) : va_W := [(q_t, .inr (0, [.int t_places, .int t_all, .ref q_t_owned, .ref q_t_calling, .ref q_t_next])), (q_t_next, .inl (cI, 20, .inl t_next)), (q_t_owned, .inl (cI, 2, .inl t_owned))]
def F_X0_attract_8 (v1 : Int32) (v3 : Int32) (t_places : Int32) (t_next : (Nat → Int32)) (t_owned : (Nat → Int32)) (post : Int32 → Prop) (K0 : Int32 → Int32 → Prop) (rec : Int32 → Int32 → Prop) (v4 : Int32) (v5 : Int32) : Prop := (((20 : Int32) ≤ v5 → (K0 v4 v5)) ∧ (¬ ((20 : Int32) ≤ v5) → ((v4 = (0 : Int32) → (K0 v4 v5)) ∧ (¬ (v4 = (0 : Int32)) → (wp_X0_before v1 v4 v3 ((v3 &&& (v4 ^^^ (-1 : Int32)))) t_places t_next t_owned (fun r_2 => ((¬ r_2 = (0 : Int32) → (rec (v4 ||| r_2) ((v5 + (1 : Int32))))) ∧ (r_2 = (0 : Int32) → (post v4)))))))))
def wp_X0_attract (a1 : Int32) (a2 : Int32) (a3 : Int32) (t_places : Int32) (t_next : (Nat → Int32)) (t_owned : (Nat → Int32)) (post : Int32 → Prop) : Prop := (∃ n, fx2 (F_X0_attract_8 a1 a3 t_places t_next t_owned post (fun v4_3 v5_4 => (post v4_3))) n (a2 &&& a3) (0 : Int32))
abbrev rm_X0_attract : Room := { frames := 2, cells := 0, slots := 0, locals := 109 }
set_option maxHeartbeats 40000000 in
set_option maxRecDepth 100000 in
theorem c_X0_attract (l : Launch) (D : va_G) (X : gX) (cI cZ cB cG : ClassId) (sz : Nat) (q_t : Nat) (q_t_next : Nat) (q_t_owned : Nat) (q_t_calling : Nat) (a1 : Int32) (a2 : Int32) (a3 : Int32) (t_places : Int32) (t_all : Int32) (t_next : (Nat → Int32)) (t_owned : (Nat → Int32)) (post : Int32 → Prop) (hf : wp_X0_attract a1 a2 a3 t_places t_next t_owned post) : Met l yX0_attract wsX0_attract rm_X0_attract (gP D X (gT cI cZ cB cG) sz [.ref q_t, .int a1, .int a2, .int a3] (wd_X0_attract cI cZ cB cG q_t q_t_next q_t_owned q_t_calling t_places t_all t_next t_owned)) (va_Qi (fun (r : Int32) (u : Unit) => post r) (fun u t => gB D (gT cI cZ cB cG) (va_A (wd_X0_attract cI cZ cB cG q_t q_t_next q_t_owned q_t_calling t_places t_all t_next t_owned) sz) (wd_X0_attract cI cZ cB cG q_t q_t_next q_t_owned q_t_calling t_places t_all t_next t_owned) t) (va_A (wd_X0_attract cI cZ cB cG q_t q_t_next q_t_owned q_t_calling t_places t_all t_next t_owned) sz)) 0 0 (va_A (wd_X0_attract cI cZ cB cG q_t q_t_next q_t_owned q_t_calling t_places t_all t_next t_owned) sz) := by
  refine g_ofWi (cc := cX0_attract) (maxL := 7) (by decide +kernel) (Nat.le_of_ble_eq_true rfl) rfl ?_
  intro p e s m args below meth c A Q hx hb hml hown hts hA hK hE H hP hD hS ls hl hret
  have hl : lv_has ls 7 [(0, .ref q_t), (1, .int a1), (2, .int a2), (3, .int a3)] := hl
  have L8 : ∀ (v1 : Int32) (v3 : Int32) (K0 : Int32 → Int32 → Prop) (_ : ∀ (v4 : Int32) (v5 : Int32) (H : Heap) (locs : List Loc) (ls : Array Slot), K0 v4 v5 → va_P D vwCl (wd_X0_attract cI cZ cB cG q_t q_t_next q_t_owned q_t_calling t_places t_all t_next t_owned) H → va_D A (wd_X0_attract cI cZ cB cG q_t q_t_next q_t_owned q_t_calling t_places t_all t_next t_owned) → va_S A s.heap H locs → lv_has ls 7 [(4, .int v4)] → W p l e (rm_X0_attract) s m args below meth c H locs 0 0 Q (F0 m 57 ls []))  (n : Nat) (v4 : Int32) (v5 : Int32) (H : Heap) (locs : List Loc) (ls : Array Slot), fx2 (F_X0_attract_8 v1 v3 t_places t_next t_owned post K0) n v4 v5 → va_P D vwCl (wd_X0_attract cI cZ cB cG q_t q_t_next q_t_owned q_t_calling t_places t_all t_next t_owned) H → va_D A (wd_X0_attract cI cZ cB cG q_t q_t_next q_t_owned q_t_calling t_places t_all t_next t_owned) → va_S A s.heap H locs → lv_has ls 7 [(0, .ref q_t), (1, .int v1), (3, .int v3), (4, .int v4), (5, .int v5)] → W p l e (rm_X0_attract) s m args below meth c H locs 0 0 Q (F0 m 8 ls []) := by
    intro v1 v3 K0 hK0 n
    induction n with
    | zero => intro v4 v5 H locs ls hf; exact (hf : False).elim
    | succ n ih =>
      intro v4 v5 H locs ls hf hP hD hS hl
      have hf : F_X0_attract_8 v1 v3 t_places t_next t_owned post K0 (fx2 (F_X0_attract_8 v1 v3 t_places t_next t_owned post K0) n) v4 v5 := hf
      unfold F_X0_attract_8 at hf
      refine lv_iload hx hb dX0_attract_8 (lv_at hl 4 rfl) ?_
      refine lv_bipush (v := (20 : Int32)) hx hb dX0_attract_10 (by decide) ?_
      refine lv_icmp_ge (tgt := 57) hx hb dX0_attract_12 (by decide) (fun hc => ?_) (fun hc => ?_)
      · have hf := hf.1 hc
        exact hK0 _ _ _ _ _ hf hP hD hS (lv_sub hl [3] rfl)
      · have hf := hf.2 hc
        refine lv_iload hx hb dX0_attract_15 (lv_at hl 3 rfl) ?_
        refine lv_if_eq (tgt := 57) hx hb dX0_attract_17 (by decide) (fun hc => ?_) (fun hc => ?_)
        · have hf := hf.1 hc
          exact hK0 _ _ _ _ _ hf hP hD hS (lv_sub hl [3] rfl)
        · have hf := hf.2 hc
          refine lv_aload_n hx hb dX0_attract_20 rfl (lv_at hl 0 rfl) ?_
          refine lv_iload_n hx hb dX0_attract_21 rfl (lv_at hl 1 rfl) ?_
          refine lv_iload hx hb dX0_attract_22 (lv_at hl 3 rfl) ?_
          refine lv_iload_n hx hb dX0_attract_24 rfl (lv_at hl 2 rfl) ?_
          refine lv_iload_n hx hb dX0_attract_25 rfl (lv_at hl 2 rfl) ?_
          refine lv_iload hx hb dX0_attract_26 (lv_at hl 3 rfl) ?_
          refine lv_iconst (v := (-1 : Int32)) hx hb dX0_attract_28 (by decide) ?_
          refine lv_ixor hx hb dX0_attract_29 ?_
          refine lv_iand hx hb dX0_attract_30 ?_
          have hPc := hP.sub (ws' := (wd_X0_before cI cZ cB cG q_t q_t_next q_t_owned q_t_calling t_places t_all t_next t_owned)) [0, 1, 2] rfl
          have hDc := hD.sub (ws' := (wd_X0_before cI cZ cB cG q_t q_t_next q_t_owned q_t_calling t_places t_all t_next t_owned)) [0, 1, 2] (by decide +kernel) rfl
          have hFc := va_free (wc := (wd_X0_before cI cZ cB cG q_t q_t_next q_t_owned q_t_calling t_places t_all t_next t_owned)) hD hS hA [0, 1, 2] rfl
          refine va_calli (va_runV (As := [.int v1, .int v4, .int v3, .int ((v3 &&& (v4 ^^^ (-1 : Int32))))]) (rest := []) ⟨hx, hb, hml, hown, hts⟩ (c_X0_before l D X cI cZ cB cG H.size q_t q_t_next q_t_owned q_t_calling v1 v4 v3 ((v3 &&& (v4 ^^^ (-1 : Int32)))) t_places t_all t_next t_owned _ hf) (cwV 4 hts gX0_attract_X0_before rfl rfl rfl (by decide +kernel) ⟨Nat.le_of_ble_eq_true rfl, Nat.le_of_ble_eq_true rfl⟩) ⟨g_blind, va_recv hK hPc (ci := 0) (q0 := 0) rfl rfl, fun U hU hW => g_side hU hW hPc hK hDc hE hS hFc⟩ rfl rfl hl.1 rfl (lv_room (Nat.le_of_ble_eq_true rfl)) dX0_attract_31 ⟨Nat.zero_le _, Nat.zero_le _⟩) hS (fun q _ h => hFc q h) hFc (fun r_2 u t H1 locs ht hvm hw hB hz1 hk1 hS => ?_)
          obtain ⟨hP1, hK1, hD1⟩ := hB
          rw [ht] at hP1
          obtain ⟨hP, hD⟩ := g_back (wc := (wd_X0_before cI cZ cB cG q_t q_t_next q_t_owned q_t_calling t_places t_all t_next t_owned)) (w1 := (wd_X0_before cI cZ cB cG q_t q_t_next q_t_owned q_t_calling t_places t_all t_next t_owned)) hP hD [0, 1, 2] rfl rfl hk1 hP1
          have hP : va_P D vwCl (wd_X0_attract cI cZ cB cG q_t q_t_next q_t_owned q_t_calling t_places t_all t_next t_owned) H1 := hP
          have hD : va_D A (wd_X0_attract cI cZ cB cG q_t q_t_next q_t_owned q_t_calling t_places t_all t_next t_owned) := hD
          have hf := hw
          generalize H1 = H at hP hS ⊢
          refine lv_istore (lv' := [(6, .int r_2), (0, .ref q_t), (1, .int v1), (3, .int v3), (4, .int v4), (5, .int v5)]) hx hb dX0_attract_34 hl (by decide) rfl (fun ls hl => ?_)
          refine lv_iload hx hb dX0_attract_36 (lv_at hl 0 rfl) ?_
          refine lv_if_ne (tgt := 44) hx hb dX0_attract_38 (by decide) (fun hc => ?_) (fun hc => ?_)
          · have hf := hf.1 hc
            refine lv_iload hx hb dX0_attract_44 (lv_at hl 4 rfl) ?_
            refine lv_iload hx hb dX0_attract_46 (lv_at hl 0 rfl) ?_
            refine lv_ior hx hb dX0_attract_48 ?_
            refine lv_istore (lv' := [(4, .int (v4 ||| r_2)), (6, .int r_2), (0, .ref q_t), (1, .int v1), (3, .int v3), (5, .int v5)]) hx hb dX0_attract_49 hl (by decide) rfl (fun ls hl => ?_)
            refine lv_iinc (v := (v5 + (1 : Int32))) (lv' := [(5, .int ((v5 + (1 : Int32)))), (4, .int (v4 ||| r_2)), (6, .int r_2), (0, .ref q_t), (1, .int v1), (3, .int v3)]) hx hb dX0_attract_51 hl (k := 5) rfl rfl (by decide) rfl (fun ls hl => ?_)
            refine lv_goto (tgt := 8) hx hb dX0_attract_54 (by decide) ?_
            exact ih _ _ _ _ _ hf hP hD hS (lv_sub hl [3, 4, 5, 1, 0] rfl)
          · have hf := hf.2 hc
            refine lv_iload hx hb dX0_attract_41 (lv_at hl 4 rfl) ?_
            exact hret v4 () hf hP hD hS dX0_attract_43
  unfold wp_X0_attract at hf
  refine lv_iload_n hx hb dX0_attract_0 rfl (lv_at hl 2 rfl) ?_
  refine lv_iload_n hx hb dX0_attract_1 rfl (lv_at hl 3 rfl) ?_
  refine lv_iand hx hb dX0_attract_2 ?_
  refine lv_istore (lv' := [(4, .int (a2 &&& a3)), (0, .ref q_t), (1, .int a1), (2, .int a2), (3, .int a3)]) hx hb dX0_attract_3 hl (by decide) rfl (fun ls hl => ?_)
  refine lv_iconst (v := (0 : Int32)) hx hb dX0_attract_5 (by decide) ?_
  refine lv_istore (lv' := [(5, .int (0 : Int32)), (4, .int (a2 &&& a3)), (0, .ref q_t), (1, .int a1), (2, .int a2), (3, .int a3)]) hx hb dX0_attract_6 hl (by decide) rfl (fun ls hl => ?_)
  obtain ⟨n, hf⟩ := hf
  refine L8 a1 a3 _ ?_  n _ _ _ _ _ hf hP hD hS (lv_sub hl [2, 3, 5, 1, 0] rfl)
  intro v4_3 v5_4 H locs ls hf hP hD hS hl
  refine lv_iload hx hb dX0_attract_57 (lv_at hl 0 rfl) ?_
  exact hret v4_3 () hf hP hD hS dX0_attract_59
abbrev wd_X0_distance (cI cZ cB cG : ClassId) (q_t : Nat) (q_t_next : Nat) (q_t_owned : Nat) (q_t_calling : Nat) (t_places : Int32) (t_all : Int32) (t_next : (Nat → Int32)) (t_owned : (Nat → Int32)) : va_W := [(q_t, .inr (0, [.int t_places, .int t_all, .ref q_t_owned, .ref q_t_calling, .ref q_t_next])), (q_t_next, .inl (cI, 20, .inl t_next)), (q_t_owned, .inl (cI, 2, .inl t_owned))]
def F_X0_distance_6 (v1 : Int32) (v2 : Int32) (t_places : Int32) (t_all : Int32) (t_next : (Nat → Int32)) (t_owned : (Nat → Int32)) (post : Int32 → Prop) (K0 : Int32 → Int32 → Prop) (rec : Int32 → Int32 → Prop) (v4 : Int32) (v5 : Int32) : Prop := (((20 : Int32) < v5 → (K0 v4 v5)) ∧ (¬ ((20 : Int32) < v5) → (wp_X5_has v4 v1 (fun r_3 => ((r_3 = (0 : Int32) → (wp_X0_before v2 v4 t_all ((t_all &&& (v4 ^^^ (-1 : Int32)))) t_places t_next t_owned (fun r_4 => (rec (v4 ||| r_4) ((v5 + (1 : Int32))))))) ∧ (¬ (r_3 = (0 : Int32)) → (post v5)))))))
def wp_X0_distance (a1 : Int32) (a2 : Int32) (a3 : Int32) (t_places : Int32) (t_all : Int32) (t_next : (Nat → Int32)) (t_owned : (Nat → Int32)) (post : Int32 → Prop) : Prop := (∃ n, fx2 (F_X0_distance_6 a1 a2 t_places t_all t_next t_owned post (fun v4_5 v5_6 => (post (-1 : Int32)))) n a3 (0 : Int32))
abbrev rm_X0_distance : Room := { frames := 2, cells := 0, slots := 0, locals := 109 }
theorem in_X0_distance_X0 : ∀ w ∈ u_ws RX0 TX0 5, w ∈ wsX0_distance := by decide +kernel
theorem k_X0_distance_28 : Cond.fieldLink RX0 28 "ParityGame$Board" "all" "I" ∈ wsX0_distance := by decide +kernel
set_option maxHeartbeats 40000000 in
set_option maxRecDepth 100000 in
theorem c_X0_distance (l : Launch) (D : va_G) (X : gX) (cI cZ cB cG : ClassId) (sz : Nat) (q_t : Nat) (q_t_next : Nat) (q_t_owned : Nat) (q_t_calling : Nat) (a1 : Int32) (a2 : Int32) (a3 : Int32) (t_places : Int32) (t_all : Int32) (t_next : (Nat → Int32)) (t_owned : (Nat → Int32)) (post : Int32 → Prop) (hf : wp_X0_distance a1 a2 a3 t_places t_all t_next t_owned post) : Met l yX0_distance wsX0_distance rm_X0_distance (gP D X (gT cI cZ cB cG) sz [.ref q_t, .int a1, .int a2, .int a3] (wd_X0_distance cI cZ cB cG q_t q_t_next q_t_owned q_t_calling t_places t_all t_next t_owned)) (va_Qi (fun (r : Int32) (u : Unit) => post r) (fun u t => gB D (gT cI cZ cB cG) (va_A (wd_X0_distance cI cZ cB cG q_t q_t_next q_t_owned q_t_calling t_places t_all t_next t_owned) sz) (wd_X0_distance cI cZ cB cG q_t q_t_next q_t_owned q_t_calling t_places t_all t_next t_owned) t) (va_A (wd_X0_distance cI cZ cB cG q_t q_t_next q_t_owned q_t_calling t_places t_all t_next t_owned) sz)) 0 0 (va_A (wd_X0_distance cI cZ cB cG q_t q_t_next q_t_owned q_t_calling t_places t_all t_next t_owned) sz) := by
  refine g_ofWi (cc := cX0_distance) (maxL := 6) (by decide +kernel) (Nat.le_of_ble_eq_true rfl) rfl ?_
  intro p e s m args below meth c A Q hx hb hml hown hts hA hK hE H hP hD hS ls hl hret
  have hinX0 := in_X0_distance_X0
  have k28 := hts _ k_X0_distance_28
  have hl : lv_has ls 6 [(0, .ref q_t), (1, .int a1), (2, .int a2), (3, .int a3)] := hl
  have L6 : ∀ (v1 : Int32) (v2 : Int32) (K0 : Int32 → Int32 → Prop) (_ : ∀ (v4 : Int32) (v5 : Int32) (H : Heap) (locs : List Loc) (ls : Array Slot), K0 v4 v5 → va_P D vwCl (wd_X0_distance cI cZ cB cG q_t q_t_next q_t_owned q_t_calling t_places t_all t_next t_owned) H → va_D A (wd_X0_distance cI cZ cB cG q_t q_t_next q_t_owned q_t_calling t_places t_all t_next t_owned) → va_S A s.heap H locs → lv_has ls 6 [] → W p l e (rm_X0_distance) s m args below meth c H locs 0 0 Q (F0 m 56 ls []))  (n : Nat) (v4 : Int32) (v5 : Int32) (H : Heap) (locs : List Loc) (ls : Array Slot), fx2 (F_X0_distance_6 v1 v2 t_places t_all t_next t_owned post K0) n v4 v5 → va_P D vwCl (wd_X0_distance cI cZ cB cG q_t q_t_next q_t_owned q_t_calling t_places t_all t_next t_owned) H → va_D A (wd_X0_distance cI cZ cB cG q_t q_t_next q_t_owned q_t_calling t_places t_all t_next t_owned) → va_S A s.heap H locs → lv_has ls 6 [(0, .ref q_t), (1, .int v1), (2, .int v2), (4, .int v4), (5, .int v5)] → W p l e (rm_X0_distance) s m args below meth c H locs 0 0 Q (F0 m 6 ls []) := by
    intro v1 v2 K0 hK0 n
    induction n with
    | zero => intro v4 v5 H locs ls hf; exact (hf : False).elim
    | succ n ih =>
      intro v4 v5 H locs ls hf hP hD hS hl
      have hf : F_X0_distance_6 v1 v2 t_places t_all t_next t_owned post K0 (fx2 (F_X0_distance_6 v1 v2 t_places t_all t_next t_owned post K0) n) v4 v5 := hf
      unfold F_X0_distance_6 at hf
      refine lv_iload hx hb dX0_distance_6 (lv_at hl 4 rfl) ?_
      refine lv_bipush (v := (20 : Int32)) hx hb dX0_distance_8 (by decide) ?_
      refine lv_icmp_gt (tgt := 56) hx hb dX0_distance_10 (by decide) (fun hc => ?_) (fun hc => ?_)
      · have hf := hf.1 hc
        exact hK0 _ _ _ _ _ hf hP hD hS (lv_sub hl [] rfl)
      · have hf := hf.2 hc
        refine lv_iload hx hb dX0_distance_13 (lv_at hl 3 rfl) ?_
        refine lv_iload_n hx hb dX0_distance_15 rfl (lv_at hl 1 rfl) ?_
        have hPc := hP.sub (ws' := ([] : va_W)) [] rfl
        have hDc := hD.sub (ws' := ([] : va_W)) [] (by decide +kernel) rfl
        have hFc := va_free (wc := ([] : va_W)) hD hS hA [] rfl
        refine va_calli (va_runSN (As := [.int v4, .int v1]) (rest := []) ⟨hx, hb, hml, hown, hts⟩ (c_X5_has l D X cI cZ cB cG H.size v4 v1 _ hf) ⟨va_cnB (host := "ParityGame") 2 hts gX0_distance_X5_has_n54 rfl rfl rfl (hE.1 (RX0, 54, yX5_has) (List.mem_of_getElem? (i := 5) rfl)) (hts (.initialized RX5) (by decide +kernel)) (by decide +kernel) ⟨Nat.le_of_ble_eq_true rfl, Nat.le_of_ble_eq_true rfl⟩, hts (.static yX5_has) (by decide +kernel), trivial⟩ ⟨g_blind, fun U hU hW => g_side hU hW hPc hK hDc hE hS hFc⟩ rfl rfl hl.1 rfl (lv_room (Nat.le_of_ble_eq_true rfl)) dX0_distance_16 ⟨Nat.zero_le _, Nat.zero_le _⟩) hS (fun q _ h => hFc q h) hFc (fun r_3 u t H1 locs ht hvm hw hB hz1 hk1 hS => ?_)
        obtain ⟨hP1, hK1, hD1⟩ := hB
        rw [ht] at hP1
        obtain ⟨hP, hD⟩ := g_back (wc := ([] : va_W)) (w1 := ([] : va_W)) hP hD [] rfl rfl hk1 hP1
        have hP : va_P D vwCl (wd_X0_distance cI cZ cB cG q_t q_t_next q_t_owned q_t_calling t_places t_all t_next t_owned) H1 := hP
        have hD : va_D A (wd_X0_distance cI cZ cB cG q_t q_t_next q_t_owned q_t_calling t_places t_all t_next t_owned) := hD
        obtain ⟨hn_r_3, hw⟩ := hw
        have hf := hw
        generalize H1 = H at hP hS ⊢
        refine lv_if_eq (tgt := 25) hx hb dX0_distance_19 (by decide) (fun hc => ?_) (fun hc => ?_)
        · have hf := hf.1 hc
          refine lv_iload hx hb dX0_distance_25 (lv_at hl 3 rfl) ?_
          refine lv_aload_n hx hb dX0_distance_27 rfl (lv_at hl 0 rfl) ?_
          refine lv_iload_n hx hb dX0_distance_28 rfl (lv_at hl 2 rfl) ?_
          refine lv_iload hx hb dX0_distance_29 (lv_at hl 3 rfl) ?_
          refine lv_aload_n hx hb dX0_distance_31 rfl (lv_at hl 0 rfl) ?_
          refine va_get (D := D) (ci := 0) (v := .int t_all) (C := RX0) (T := TX0) (N := 5) hx hb hts hinX0 hown hK hP 0 rfl rfl 1 (by decide) k28 (fun _ h9 => h9) rfl dX0_distance_32 ?_
          refine lv_aload_n hx hb dX0_distance_35 rfl (lv_at hl 0 rfl) ?_
          refine va_get (D := D) (ci := 0) (v := .int t_all) (C := RX0) (T := TX0) (N := 5) hx hb hts hinX0 hown hK hP 0 rfl rfl 1 (by decide) k28 (fun _ h9 => h9) rfl dX0_distance_36 ?_
          refine lv_iload hx hb dX0_distance_39 (lv_at hl 3 rfl) ?_
          refine lv_iconst (v := (-1 : Int32)) hx hb dX0_distance_41 (by decide) ?_
          refine lv_ixor hx hb dX0_distance_42 ?_
          refine lv_iand hx hb dX0_distance_43 ?_
          have hPc := hP.sub (ws' := (wd_X0_before cI cZ cB cG q_t q_t_next q_t_owned q_t_calling t_places t_all t_next t_owned)) [0, 1, 2] rfl
          have hDc := hD.sub (ws' := (wd_X0_before cI cZ cB cG q_t q_t_next q_t_owned q_t_calling t_places t_all t_next t_owned)) [0, 1, 2] (by decide +kernel) rfl
          have hFc := va_free (wc := (wd_X0_before cI cZ cB cG q_t q_t_next q_t_owned q_t_calling t_places t_all t_next t_owned)) hD hS hA [0, 1, 2] rfl
          refine va_calli (va_runV (As := [.int v2, .int v4, .int t_all, .int ((t_all &&& (v4 ^^^ (-1 : Int32))))]) (rest := [.int v4]) ⟨hx, hb, hml, hown, hts⟩ (c_X0_before l D X cI cZ cB cG H.size q_t q_t_next q_t_owned q_t_calling v2 v4 t_all ((t_all &&& (v4 ^^^ (-1 : Int32)))) t_places t_all t_next t_owned _ hf) (cwV 4 hts gX0_distance_X0_before rfl rfl rfl (by decide +kernel) ⟨Nat.le_of_ble_eq_true rfl, Nat.le_of_ble_eq_true rfl⟩) ⟨g_blind, va_recv hK hPc (ci := 0) (q0 := 0) rfl rfl, fun U hU hW => g_side hU hW hPc hK hDc hE hS hFc⟩ rfl rfl hl.1 rfl (lv_room (Nat.le_of_ble_eq_true rfl)) dX0_distance_44 ⟨Nat.zero_le _, Nat.zero_le _⟩) hS (fun q _ h => hFc q h) hFc (fun r_4 u t H1 locs ht hvm hw hB hz1 hk1 hS => ?_)
          obtain ⟨hP1, hK1, hD1⟩ := hB
          rw [ht] at hP1
          obtain ⟨hP, hD⟩ := g_back (wc := (wd_X0_before cI cZ cB cG q_t q_t_next q_t_owned q_t_calling t_places t_all t_next t_owned)) (w1 := (wd_X0_before cI cZ cB cG q_t q_t_next q_t_owned q_t_calling t_places t_all t_next t_owned)) hP hD [0, 1, 2] rfl rfl hk1 hP1
          have hP : va_P D vwCl (wd_X0_distance cI cZ cB cG q_t q_t_next q_t_owned q_t_calling t_places t_all t_next t_owned) H1 := hP
          have hD : va_D A (wd_X0_distance cI cZ cB cG q_t q_t_next q_t_owned q_t_calling t_places t_all t_next t_owned) := hD
          have hf := hw
          generalize H1 = H at hP hS ⊢
          refine lv_ior hx hb dX0_distance_47 ?_
          refine lv_istore (lv' := [(4, .int (v4 ||| r_4)), (0, .ref q_t), (1, .int v1), (2, .int v2), (5, .int v5)]) hx hb dX0_distance_48 hl (by decide) rfl (fun ls hl => ?_)
          refine lv_iinc (v := (v5 + (1 : Int32))) (lv' := [(5, .int ((v5 + (1 : Int32)))), (4, .int (v4 ||| r_4)), (0, .ref q_t), (1, .int v1), (2, .int v2)]) hx hb dX0_distance_50 hl (k := 4) rfl rfl (by decide) rfl (fun ls hl => ?_)
          refine lv_goto (tgt := 6) hx hb dX0_distance_53 (by decide) ?_
          exact ih _ _ _ _ _ hf hP hD hS (lv_sub hl [2, 3, 4, 1, 0] rfl)
        · have hf := hf.2 hc
          refine lv_iload hx hb dX0_distance_22 (lv_at hl 4 rfl) ?_
          exact hret v5 () hf hP hD hS dX0_distance_24
  unfold wp_X0_distance at hf
  refine lv_iload_n hx hb dX0_distance_0 rfl (lv_at hl 3 rfl) ?_
  refine lv_istore (lv' := [(4, .int a3), (0, .ref q_t), (1, .int a1), (2, .int a2), (3, .int a3)]) hx hb dX0_distance_1 hl (by decide) rfl (fun ls hl => ?_)
  refine lv_iconst (v := (0 : Int32)) hx hb dX0_distance_3 (by decide) ?_
  refine lv_istore (lv' := [(5, .int (0 : Int32)), (4, .int a3), (0, .ref q_t), (1, .int a1), (2, .int a2), (3, .int a3)]) hx hb dX0_distance_4 hl (by decide) rfl (fun ls hl => ?_)
  obtain ⟨n, hf⟩ := hf
  refine L6 a1 a2 _ ?_  n _ _ _ _ _ hf hP hD hS (lv_sub hl [2, 3, 4, 1, 0] rfl)
  intro v4_5 v5_6 H locs ls hf hP hD hS hl
  refine lv_iconst (v := (-1 : Int32)) hx hb dX0_distance_56 (by decide) ?_
  exact hret (-1 : Int32) () hf hP hD hS dX0_distance_57
abbrev wd_X0_stayingIn (cI cZ cB cG : ClassId) (q_t : Nat) (q_t_next : Nat) (q_t_owned : Nat) (q_t_calling : Nat) (t_places : Int32) (t_all : Int32) (t_next : (Nat → Int32)) (t_owned : (Nat → Int32)) : va_W := [(q_t, .inr (0, [.int t_places, .int t_all, .ref q_t_owned, .ref q_t_calling, .ref q_t_next])), (q_t_next, .inl (cI, 20, .inl t_next)), (q_t_owned, .inl (cI, 2, .inl t_owned))]
def F_X0_stayingIn_11 (v1 : Int32) (v3 : Int32) (t_places : Int32) (t_all : Int32) (t_next : (Nat → Int32)) (t_owned : (Nat → Int32)) (post : Int32 → Prop) (K0 : Int32 → Int32 → Prop) (rec : Int32 → Int32 → Prop) (v4 : Int32) (v5 : Int32) : Prop := (((20 : Int32) ≤ v5 → (K0 v4 v5)) ∧ (¬ ((20 : Int32) ≤ v5) → (wp_X0_before v1 v4 t_all v4 t_places t_next t_owned (fun r_4 => ((¬ (r_4 ||| (v4 &&& v3)) = v4 → (rec ((r_4 ||| (v4 &&& v3))) ((v5 + (1 : Int32))))) ∧ ((r_4 ||| (v4 &&& v3)) = v4 → (post v4)))))))
def wp_X0_stayingIn (a1 : Int32) (a2 : Int32) (t_places : Int32) (t_all : Int32) (t_next : (Nat → Int32)) (t_owned : (Nat → Int32)) (post : Int32 → Prop) : Prop := (wp_X0_deadEnds t_places t_next (fun r_3 => (∃ n, fx2 (F_X0_stayingIn_11 a1 r_3 t_places t_all t_next t_owned post (fun v4_5 v5_6 => (post v4_5))) n a2 (0 : Int32))))
abbrev rm_X0_stayingIn : Room := { frames := 2, cells := 0, slots := 0, locals := 109 }
theorem in_X0_stayingIn_X0 : ∀ w ∈ u_ws RX0 TX0 5, w ∈ wsX0_stayingIn := by decide +kernel
theorem k_X0_stayingIn_28 : Cond.fieldLink RX0 28 "ParityGame$Board" "all" "I" ∈ wsX0_stayingIn := by decide +kernel
set_option maxHeartbeats 40000000 in
set_option maxRecDepth 100000 in
theorem c_X0_stayingIn (l : Launch) (D : va_G) (X : gX) (cI cZ cB cG : ClassId) (sz : Nat) (q_t : Nat) (q_t_next : Nat) (q_t_owned : Nat) (q_t_calling : Nat) (a1 : Int32) (a2 : Int32) (t_places : Int32) (t_all : Int32) (t_next : (Nat → Int32)) (t_owned : (Nat → Int32)) (post : Int32 → Prop) (hf : wp_X0_stayingIn a1 a2 t_places t_all t_next t_owned post) : Met l yX0_stayingIn wsX0_stayingIn rm_X0_stayingIn (gP D X (gT cI cZ cB cG) sz [.ref q_t, .int a1, .int a2] (wd_X0_stayingIn cI cZ cB cG q_t q_t_next q_t_owned q_t_calling t_places t_all t_next t_owned)) (va_Qi (fun (r : Int32) (u : Unit) => post r) (fun u t => gB D (gT cI cZ cB cG) (va_A (wd_X0_stayingIn cI cZ cB cG q_t q_t_next q_t_owned q_t_calling t_places t_all t_next t_owned) sz) (wd_X0_stayingIn cI cZ cB cG q_t q_t_next q_t_owned q_t_calling t_places t_all t_next t_owned) t) (va_A (wd_X0_stayingIn cI cZ cB cG q_t q_t_next q_t_owned q_t_calling t_places t_all t_next t_owned) sz)) 0 0 (va_A (wd_X0_stayingIn cI cZ cB cG q_t q_t_next q_t_owned q_t_calling t_places t_all t_next t_owned) sz) := by
  refine g_ofWi (cc := cX0_stayingIn) (maxL := 7) (by decide +kernel) (Nat.le_of_ble_eq_true rfl) rfl ?_
  intro p e s m args below meth c A Q hx hb hml hown hts hA hK hE H hP hD hS ls hl hret
  have hinX0 := in_X0_stayingIn_X0
  have k28 := hts _ k_X0_stayingIn_28
  have hl : lv_has ls 7 [(0, .ref q_t), (1, .int a1), (2, .int a2)] := hl
  have L11 : ∀ (v1 : Int32) (v3 : Int32) (K0 : Int32 → Int32 → Prop) (_ : ∀ (v4 : Int32) (v5 : Int32) (H : Heap) (locs : List Loc) (ls : Array Slot), K0 v4 v5 → va_P D vwCl (wd_X0_stayingIn cI cZ cB cG q_t q_t_next q_t_owned q_t_calling t_places t_all t_next t_owned) H → va_D A (wd_X0_stayingIn cI cZ cB cG q_t q_t_next q_t_owned q_t_calling t_places t_all t_next t_owned) → va_S A s.heap H locs → lv_has ls 7 [(4, .int v4)] → W p l e (rm_X0_stayingIn) s m args below meth c H locs 0 0 Q (F0 m 58 ls []))  (n : Nat) (v4 : Int32) (v5 : Int32) (H : Heap) (locs : List Loc) (ls : Array Slot), fx2 (F_X0_stayingIn_11 v1 v3 t_places t_all t_next t_owned post K0) n v4 v5 → va_P D vwCl (wd_X0_stayingIn cI cZ cB cG q_t q_t_next q_t_owned q_t_calling t_places t_all t_next t_owned) H → va_D A (wd_X0_stayingIn cI cZ cB cG q_t q_t_next q_t_owned q_t_calling t_places t_all t_next t_owned) → va_S A s.heap H locs → lv_has ls 7 [(0, .ref q_t), (1, .int v1), (3, .int v3), (4, .int v4), (5, .int v5)] → W p l e (rm_X0_stayingIn) s m args below meth c H locs 0 0 Q (F0 m 11 ls []) := by
    intro v1 v3 K0 hK0 n
    induction n with
    | zero => intro v4 v5 H locs ls hf; exact (hf : False).elim
    | succ n ih =>
      intro v4 v5 H locs ls hf hP hD hS hl
      have hf : F_X0_stayingIn_11 v1 v3 t_places t_all t_next t_owned post K0 (fx2 (F_X0_stayingIn_11 v1 v3 t_places t_all t_next t_owned post K0) n) v4 v5 := hf
      unfold F_X0_stayingIn_11 at hf
      refine lv_iload hx hb dX0_stayingIn_11 (lv_at hl 4 rfl) ?_
      refine lv_bipush (v := (20 : Int32)) hx hb dX0_stayingIn_13 (by decide) ?_
      refine lv_icmp_ge (tgt := 58) hx hb dX0_stayingIn_15 (by decide) (fun hc => ?_) (fun hc => ?_)
      · have hf := hf.1 hc
        exact hK0 _ _ _ _ _ hf hP hD hS (lv_sub hl [3] rfl)
      · have hf := hf.2 hc
        refine lv_aload_n hx hb dX0_stayingIn_18 rfl (lv_at hl 0 rfl) ?_
        refine lv_iload_n hx hb dX0_stayingIn_19 rfl (lv_at hl 1 rfl) ?_
        refine lv_iload hx hb dX0_stayingIn_20 (lv_at hl 3 rfl) ?_
        refine lv_aload_n hx hb dX0_stayingIn_22 rfl (lv_at hl 0 rfl) ?_
        refine va_get (D := D) (ci := 0) (v := .int t_all) (C := RX0) (T := TX0) (N := 5) hx hb hts hinX0 hown hK hP 0 rfl rfl 1 (by decide) k28 (fun _ h9 => h9) rfl dX0_stayingIn_23 ?_
        refine lv_iload hx hb dX0_stayingIn_26 (lv_at hl 3 rfl) ?_
        have hPc := hP.sub (ws' := (wd_X0_before cI cZ cB cG q_t q_t_next q_t_owned q_t_calling t_places t_all t_next t_owned)) [0, 1, 2] rfl
        have hDc := hD.sub (ws' := (wd_X0_before cI cZ cB cG q_t q_t_next q_t_owned q_t_calling t_places t_all t_next t_owned)) [0, 1, 2] (by decide +kernel) rfl
        have hFc := va_free (wc := (wd_X0_before cI cZ cB cG q_t q_t_next q_t_owned q_t_calling t_places t_all t_next t_owned)) hD hS hA [0, 1, 2] rfl
        refine va_calli (va_runV (As := [.int v1, .int v4, .int t_all, .int v4]) (rest := []) ⟨hx, hb, hml, hown, hts⟩ (c_X0_before l D X cI cZ cB cG H.size q_t q_t_next q_t_owned q_t_calling v1 v4 t_all v4 t_places t_all t_next t_owned _ hf) (cwV 4 hts gX0_stayingIn_X0_before rfl rfl rfl (by decide +kernel) ⟨Nat.le_of_ble_eq_true rfl, Nat.le_of_ble_eq_true rfl⟩) ⟨g_blind, va_recv hK hPc (ci := 0) (q0 := 0) rfl rfl, fun U hU hW => g_side hU hW hPc hK hDc hE hS hFc⟩ rfl rfl hl.1 rfl (lv_room (Nat.le_of_ble_eq_true rfl)) dX0_stayingIn_28 ⟨Nat.zero_le _, Nat.zero_le _⟩) hS (fun q _ h => hFc q h) hFc (fun r_4 u t H1 locs ht hvm hw hB hz1 hk1 hS => ?_)
        obtain ⟨hP1, hK1, hD1⟩ := hB
        rw [ht] at hP1
        obtain ⟨hP, hD⟩ := g_back (wc := (wd_X0_before cI cZ cB cG q_t q_t_next q_t_owned q_t_calling t_places t_all t_next t_owned)) (w1 := (wd_X0_before cI cZ cB cG q_t q_t_next q_t_owned q_t_calling t_places t_all t_next t_owned)) hP hD [0, 1, 2] rfl rfl hk1 hP1
        have hP : va_P D vwCl (wd_X0_stayingIn cI cZ cB cG q_t q_t_next q_t_owned q_t_calling t_places t_all t_next t_owned) H1 := hP
        have hD : va_D A (wd_X0_stayingIn cI cZ cB cG q_t q_t_next q_t_owned q_t_calling t_places t_all t_next t_owned) := hD
        have hf := hw
        generalize H1 = H at hP hS ⊢
        refine lv_iload hx hb dX0_stayingIn_31 (lv_at hl 3 rfl) ?_
        refine lv_iload_n hx hb dX0_stayingIn_33 rfl (lv_at hl 2 rfl) ?_
        refine lv_iand hx hb dX0_stayingIn_34 ?_
        refine lv_ior hx hb dX0_stayingIn_35 ?_
        refine lv_istore (lv' := [(6, .int ((r_4 ||| (v4 &&& v3)))), (0, .ref q_t), (1, .int v1), (3, .int v3), (4, .int v4), (5, .int v5)]) hx hb dX0_stayingIn_36 hl (by decide) rfl (fun ls hl => ?_)
        refine lv_iload hx hb dX0_stayingIn_38 (lv_at hl 0 rfl) ?_
        refine lv_iload hx hb dX0_stayingIn_40 (lv_at hl 4 rfl) ?_
        refine lv_icmp_ne (tgt := 48) hx hb dX0_stayingIn_42 (by decide) (fun hc => ?_) (fun hc => ?_)
        · have hf := hf.1 hc
          refine lv_iload hx hb dX0_stayingIn_48 (lv_at hl 0 rfl) ?_
          refine lv_istore (lv' := [(4, .int ((r_4 ||| (v4 &&& v3)))), (6, .int ((r_4 ||| (v4 &&& v3)))), (0, .ref q_t), (1, .int v1), (3, .int v3), (5, .int v5)]) hx hb dX0_stayingIn_50 hl (by decide) rfl (fun ls hl => ?_)
          refine lv_iinc (v := (v5 + (1 : Int32))) (lv' := [(5, .int ((v5 + (1 : Int32)))), (4, .int ((r_4 ||| (v4 &&& v3)))), (6, .int ((r_4 ||| (v4 &&& v3)))), (0, .ref q_t), (1, .int v1), (3, .int v3)]) hx hb dX0_stayingIn_52 hl (k := 5) rfl rfl (by decide) rfl (fun ls hl => ?_)
          refine lv_goto (tgt := 11) hx hb dX0_stayingIn_55 (by decide) ?_
          exact ih _ _ _ _ _ hf hP hD hS (lv_sub hl [3, 4, 5, 1, 0] rfl)
        · have hf := hf.2 hc
          refine lv_iload hx hb dX0_stayingIn_45 (lv_at hl 4 rfl) ?_
          exact hret v4 () hf hP hD hS dX0_stayingIn_47
  unfold wp_X0_stayingIn at hf
  refine lv_aload_n hx hb dX0_stayingIn_0 rfl (lv_at hl 0 rfl) ?_
  have hPc := hP.sub (ws' := (wd_X0_deadEnds cI cZ cB cG q_t q_t_next q_t_owned q_t_calling t_places t_all t_next)) [0, 1] rfl
  have hDc := hD.sub (ws' := (wd_X0_deadEnds cI cZ cB cG q_t q_t_next q_t_owned q_t_calling t_places t_all t_next)) [0, 1] (by decide +kernel) rfl
  have hFc := va_free (wc := (wd_X0_deadEnds cI cZ cB cG q_t q_t_next q_t_owned q_t_calling t_places t_all t_next)) hD hS hA [0, 1] rfl
  refine va_calli (va_runV (As := []) (rest := []) ⟨hx, hb, hml, hown, hts⟩ (c_X0_deadEnds l D X cI cZ cB cG H.size q_t q_t_next q_t_owned q_t_calling t_places t_all t_next _ hf) (cwV 0 hts gX0_stayingIn_X0_deadEnds rfl rfl rfl (by decide +kernel) ⟨Nat.le_of_ble_eq_true rfl, Nat.le_of_ble_eq_true rfl⟩) ⟨g_blind, va_recv hK hPc (ci := 0) (q0 := 0) rfl rfl, fun U hU hW => g_side hU hW hPc hK hDc hE hS hFc⟩ rfl rfl hl.1 rfl (lv_room (Nat.le_of_ble_eq_true rfl)) dX0_stayingIn_1 ⟨Nat.zero_le _, Nat.zero_le _⟩) hS (fun q _ h => hFc q h) hFc (fun r_3 u t H1 locs ht hvm hw hB hz1 hk1 hS => ?_)
  obtain ⟨hP1, hK1, hD1⟩ := hB
  rw [ht] at hP1
  obtain ⟨hP, hD⟩ := g_back (wc := (wd_X0_deadEnds cI cZ cB cG q_t q_t_next q_t_owned q_t_calling t_places t_all t_next)) (w1 := (wd_X0_deadEnds cI cZ cB cG q_t q_t_next q_t_owned q_t_calling t_places t_all t_next)) hP hD [0, 1] rfl rfl hk1 hP1
  have hP : va_P D vwCl (wd_X0_stayingIn cI cZ cB cG q_t q_t_next q_t_owned q_t_calling t_places t_all t_next t_owned) H1 := hP
  have hD : va_D A (wd_X0_stayingIn cI cZ cB cG q_t q_t_next q_t_owned q_t_calling t_places t_all t_next t_owned) := hD
  have hf := hw
  generalize H1 = H at hP hS ⊢
  refine lv_istore_n (lv' := [(3, .int r_3), (0, .ref q_t), (1, .int a1), (2, .int a2)]) hx hb dX0_stayingIn_4 rfl hl (by decide) rfl (fun ls hl => ?_)
  refine lv_iload_n hx hb dX0_stayingIn_5 rfl (lv_at hl 3 rfl) ?_
  refine lv_istore (lv' := [(4, .int a2), (3, .int r_3), (0, .ref q_t), (1, .int a1), (2, .int a2)]) hx hb dX0_stayingIn_6 hl (by decide) rfl (fun ls hl => ?_)
  refine lv_iconst (v := (0 : Int32)) hx hb dX0_stayingIn_8 (by decide) ?_
  refine lv_istore (lv' := [(5, .int (0 : Int32)), (4, .int a2), (3, .int r_3), (0, .ref q_t), (1, .int a1), (2, .int a2)]) hx hb dX0_stayingIn_9 hl (by decide) rfl (fun ls hl => ?_)
  obtain ⟨n, hf⟩ := hf
  refine L11 a1 r_3 _ ?_  n _ _ _ _ _ hf hP hD hS (lv_sub hl [3, 4, 2, 1, 0] rfl)
  intro v4_5 v5_6 H locs ls hf hP hD hS hl
  refine lv_iload hx hb dX0_stayingIn_58 (lv_at hl 0 rfl) ?_
  exact hret v4_5 () hf hP hD hS dX0_stayingIn_60
abbrev wd_X0_comingBackTo (cI cZ cB cG : ClassId) (q_t : Nat) (q_t_next : Nat) (q_t_owned : Nat) (q_t_calling : Nat) (t_places : Int32) (t_all : Int32) (t_next : (Nat → Int32)) (t_owned : (Nat → Int32)) : va_W := [(q_t, .inr (0, [.int t_places, .int t_all, .ref q_t_owned, .ref q_t_calling, .ref q_t_next])), (q_t_next, .inl (cI, 20, .inl t_next)), (q_t_owned, .inl (cI, 2, .inl t_owned))]
def F_X0_comingBackTo_8 (v1 : Int32) (v2 : Int32) (t_places : Int32) (t_all : Int32) (t_next : (Nat → Int32)) (t_owned : (Nat → Int32)) (post : Int32 → Prop) (K0 : Int32 → Int32 → Prop) (rec : Int32 → Int32 → Prop) (v3 : Int32) (v4 : Int32) : Prop := (((20 : Int32) ≤ v4 → (K0 v3 v4)) ∧ (¬ ((20 : Int32) ≤ v4) → (wp_X0_before v1 v3 t_all v2 t_places t_next t_owned (fun r_3 => (wp_X0_attract v1 r_3 t_all t_places t_next t_owned (fun r_4 => ((¬ r_4 = v3 → (rec r_4 ((v4 + (1 : Int32))))) ∧ (r_4 = v3 → (post v3)))))))))
def wp_X0_comingBackTo (a1 : Int32) (a2 : Int32) (t_places : Int32) (t_all : Int32) (t_next : (Nat → Int32)) (t_owned : (Nat → Int32)) (post : Int32 → Prop) : Prop := (∃ n, fx2 (F_X0_comingBackTo_8 a1 a2 t_places t_all t_next t_owned post (fun v3_5 v4_6 => (post v3_5))) n t_all (0 : Int32))
abbrev rm_X0_comingBackTo : Room := { frames := 3, cells := 0, slots := 0, locals := 135 }
theorem in_X0_comingBackTo_X0 : ∀ w ∈ u_ws RX0 TX0 5, w ∈ wsX0_comingBackTo := by decide +kernel
theorem k_X0_comingBackTo_28 : Cond.fieldLink RX0 28 "ParityGame$Board" "all" "I" ∈ wsX0_comingBackTo := by decide +kernel
set_option maxHeartbeats 40000000 in
set_option maxRecDepth 100000 in
theorem c_X0_comingBackTo (l : Launch) (D : va_G) (X : gX) (cI cZ cB cG : ClassId) (sz : Nat) (q_t : Nat) (q_t_next : Nat) (q_t_owned : Nat) (q_t_calling : Nat) (a1 : Int32) (a2 : Int32) (t_places : Int32) (t_all : Int32) (t_next : (Nat → Int32)) (t_owned : (Nat → Int32)) (post : Int32 → Prop) (hf : wp_X0_comingBackTo a1 a2 t_places t_all t_next t_owned post) : Met l yX0_comingBackTo wsX0_comingBackTo rm_X0_comingBackTo (gP D X (gT cI cZ cB cG) sz [.ref q_t, .int a1, .int a2] (wd_X0_comingBackTo cI cZ cB cG q_t q_t_next q_t_owned q_t_calling t_places t_all t_next t_owned)) (va_Qi (fun (r : Int32) (u : Unit) => post r) (fun u t => gB D (gT cI cZ cB cG) (va_A (wd_X0_comingBackTo cI cZ cB cG q_t q_t_next q_t_owned q_t_calling t_places t_all t_next t_owned) sz) (wd_X0_comingBackTo cI cZ cB cG q_t q_t_next q_t_owned q_t_calling t_places t_all t_next t_owned) t) (va_A (wd_X0_comingBackTo cI cZ cB cG q_t q_t_next q_t_owned q_t_calling t_places t_all t_next t_owned) sz)) 0 0 (va_A (wd_X0_comingBackTo cI cZ cB cG q_t q_t_next q_t_owned q_t_calling t_places t_all t_next t_owned) sz) := by
  refine g_ofWi (cc := cX0_comingBackTo) (maxL := 7) (by decide +kernel) (Nat.le_of_ble_eq_true rfl) rfl ?_
  intro p e s m args below meth c A Q hx hb hml hown hts hA hK hE H hP hD hS ls hl hret
  have hinX0 := in_X0_comingBackTo_X0
  have k28 := hts _ k_X0_comingBackTo_28
  have hl : lv_has ls 7 [(0, .ref q_t), (1, .int a1), (2, .int a2)] := hl
  have L8 : ∀ (v1 : Int32) (v2 : Int32) (K0 : Int32 → Int32 → Prop) (_ : ∀ (v3 : Int32) (v4 : Int32) (H : Heap) (locs : List Loc) (ls : Array Slot), K0 v3 v4 → va_P D vwCl (wd_X0_comingBackTo cI cZ cB cG q_t q_t_next q_t_owned q_t_calling t_places t_all t_next t_owned) H → va_D A (wd_X0_comingBackTo cI cZ cB cG q_t q_t_next q_t_owned q_t_calling t_places t_all t_next t_owned) → va_S A s.heap H locs → lv_has ls 7 [(3, .int v3)] → W p l e (rm_X0_comingBackTo) s m args below meth c H locs 0 0 Q (F0 m 58 ls []))  (n : Nat) (v3 : Int32) (v4 : Int32) (H : Heap) (locs : List Loc) (ls : Array Slot), fx2 (F_X0_comingBackTo_8 v1 v2 t_places t_all t_next t_owned post K0) n v3 v4 → va_P D vwCl (wd_X0_comingBackTo cI cZ cB cG q_t q_t_next q_t_owned q_t_calling t_places t_all t_next t_owned) H → va_D A (wd_X0_comingBackTo cI cZ cB cG q_t q_t_next q_t_owned q_t_calling t_places t_all t_next t_owned) → va_S A s.heap H locs → lv_has ls 7 [(0, .ref q_t), (1, .int v1), (2, .int v2), (3, .int v3), (4, .int v4)] → W p l e (rm_X0_comingBackTo) s m args below meth c H locs 0 0 Q (F0 m 8 ls []) := by
    intro v1 v2 K0 hK0 n
    induction n with
    | zero => intro v3 v4 H locs ls hf; exact (hf : False).elim
    | succ n ih =>
      intro v3 v4 H locs ls hf hP hD hS hl
      have hf : F_X0_comingBackTo_8 v1 v2 t_places t_all t_next t_owned post K0 (fx2 (F_X0_comingBackTo_8 v1 v2 t_places t_all t_next t_owned post K0) n) v3 v4 := hf
      unfold F_X0_comingBackTo_8 at hf
      refine lv_iload hx hb dX0_comingBackTo_8 (lv_at hl 4 rfl) ?_
      refine lv_bipush (v := (20 : Int32)) hx hb dX0_comingBackTo_10 (by decide) ?_
      refine lv_icmp_ge (tgt := 58) hx hb dX0_comingBackTo_12 (by decide) (fun hc => ?_) (fun hc => ?_)
      · have hf := hf.1 hc
        exact hK0 _ _ _ _ _ hf hP hD hS (lv_sub hl [3] rfl)
      · have hf := hf.2 hc
        refine lv_aload_n hx hb dX0_comingBackTo_15 rfl (lv_at hl 0 rfl) ?_
        refine lv_iload_n hx hb dX0_comingBackTo_16 rfl (lv_at hl 1 rfl) ?_
        refine lv_iload_n hx hb dX0_comingBackTo_17 rfl (lv_at hl 3 rfl) ?_
        refine lv_aload_n hx hb dX0_comingBackTo_18 rfl (lv_at hl 0 rfl) ?_
        refine va_get (D := D) (ci := 0) (v := .int t_all) (C := RX0) (T := TX0) (N := 5) hx hb hts hinX0 hown hK hP 0 rfl rfl 1 (by decide) k28 (fun _ h9 => h9) rfl dX0_comingBackTo_19 ?_
        refine lv_iload_n hx hb dX0_comingBackTo_22 rfl (lv_at hl 2 rfl) ?_
        have hPc := hP.sub (ws' := (wd_X0_before cI cZ cB cG q_t q_t_next q_t_owned q_t_calling t_places t_all t_next t_owned)) [0, 1, 2] rfl
        have hDc := hD.sub (ws' := (wd_X0_before cI cZ cB cG q_t q_t_next q_t_owned q_t_calling t_places t_all t_next t_owned)) [0, 1, 2] (by decide +kernel) rfl
        have hFc := va_free (wc := (wd_X0_before cI cZ cB cG q_t q_t_next q_t_owned q_t_calling t_places t_all t_next t_owned)) hD hS hA [0, 1, 2] rfl
        refine va_calli (va_runV (As := [.int v1, .int v3, .int t_all, .int v2]) (rest := []) ⟨hx, hb, hml, hown, hts⟩ (c_X0_before l D X cI cZ cB cG H.size q_t q_t_next q_t_owned q_t_calling v1 v3 t_all v2 t_places t_all t_next t_owned _ hf) (cwV 4 hts gX0_comingBackTo_X0_before rfl rfl rfl (by decide +kernel) ⟨Nat.le_of_ble_eq_true rfl, Nat.le_of_ble_eq_true rfl⟩) ⟨g_blind, va_recv hK hPc (ci := 0) (q0 := 0) rfl rfl, fun U hU hW => g_side hU hW hPc hK hDc hE hS hFc⟩ rfl rfl hl.1 rfl (lv_room (Nat.le_of_ble_eq_true rfl)) dX0_comingBackTo_23 ⟨Nat.zero_le _, Nat.zero_le _⟩) hS (fun q _ h => hFc q h) hFc (fun r_3 u t H1 locs ht hvm hw hB hz1 hk1 hS => ?_)
        obtain ⟨hP1, hK1, hD1⟩ := hB
        rw [ht] at hP1
        obtain ⟨hP, hD⟩ := g_back (wc := (wd_X0_before cI cZ cB cG q_t q_t_next q_t_owned q_t_calling t_places t_all t_next t_owned)) (w1 := (wd_X0_before cI cZ cB cG q_t q_t_next q_t_owned q_t_calling t_places t_all t_next t_owned)) hP hD [0, 1, 2] rfl rfl hk1 hP1
        have hP : va_P D vwCl (wd_X0_comingBackTo cI cZ cB cG q_t q_t_next q_t_owned q_t_calling t_places t_all t_next t_owned) H1 := hP
        have hD : va_D A (wd_X0_comingBackTo cI cZ cB cG q_t q_t_next q_t_owned q_t_calling t_places t_all t_next t_owned) := hD
        have hf := hw
        generalize H1 = H at hP hS ⊢
        refine lv_istore (lv' := [(5, .int r_3), (0, .ref q_t), (1, .int v1), (2, .int v2), (3, .int v3), (4, .int v4)]) hx hb dX0_comingBackTo_26 hl (by decide) rfl (fun ls hl => ?_)
        refine lv_aload_n hx hb dX0_comingBackTo_28 rfl (lv_at hl 1 rfl) ?_
        refine lv_iload_n hx hb dX0_comingBackTo_29 rfl (lv_at hl 2 rfl) ?_
        refine lv_iload hx hb dX0_comingBackTo_30 (lv_at hl 0 rfl) ?_
        refine lv_aload_n hx hb dX0_comingBackTo_32 rfl (lv_at hl 1 rfl) ?_
        refine va_get (D := D) (ci := 0) (v := .int t_all) (C := RX0) (T := TX0) (N := 5) hx hb hts hinX0 hown hK hP 0 rfl rfl 1 (by decide) k28 (fun _ h9 => h9) rfl dX0_comingBackTo_33 ?_
        have hPc := hP.sub (ws' := (wd_X0_attract cI cZ cB cG q_t q_t_next q_t_owned q_t_calling t_places t_all t_next t_owned)) [0, 1, 2] rfl
        have hDc := hD.sub (ws' := (wd_X0_attract cI cZ cB cG q_t q_t_next q_t_owned q_t_calling t_places t_all t_next t_owned)) [0, 1, 2] (by decide +kernel) rfl
        have hFc := va_free (wc := (wd_X0_attract cI cZ cB cG q_t q_t_next q_t_owned q_t_calling t_places t_all t_next t_owned)) hD hS hA [0, 1, 2] rfl
        refine va_calli (va_runV (As := [.int v1, .int r_3, .int t_all]) (rest := []) ⟨hx, hb, hml, hown, hts⟩ (c_X0_attract l D X cI cZ cB cG H.size q_t q_t_next q_t_owned q_t_calling v1 r_3 t_all t_places t_all t_next t_owned _ hf) (cwV 3 hts gX0_comingBackTo_X0_attract rfl rfl rfl (by decide +kernel) ⟨Nat.le_of_ble_eq_true rfl, Nat.le_of_ble_eq_true rfl⟩) ⟨g_blind, va_recv hK hPc (ci := 0) (q0 := 0) rfl rfl, fun U hU hW => g_side hU hW hPc hK hDc hE hS hFc⟩ rfl rfl hl.1 rfl (lv_room (Nat.le_of_ble_eq_true rfl)) dX0_comingBackTo_36 ⟨Nat.zero_le _, Nat.zero_le _⟩) hS (fun q _ h => hFc q h) hFc (fun r_4 u t H1 locs ht hvm hw hB hz1 hk1 hS => ?_)
        obtain ⟨hP1, hK1, hD1⟩ := hB
        rw [ht] at hP1
        obtain ⟨hP, hD⟩ := g_back (wc := (wd_X0_attract cI cZ cB cG q_t q_t_next q_t_owned q_t_calling t_places t_all t_next t_owned)) (w1 := (wd_X0_attract cI cZ cB cG q_t q_t_next q_t_owned q_t_calling t_places t_all t_next t_owned)) hP hD [0, 1, 2] rfl rfl hk1 hP1
        have hP : va_P D vwCl (wd_X0_comingBackTo cI cZ cB cG q_t q_t_next q_t_owned q_t_calling t_places t_all t_next t_owned) H1 := hP
        have hD : va_D A (wd_X0_comingBackTo cI cZ cB cG q_t q_t_next q_t_owned q_t_calling t_places t_all t_next t_owned) := hD
        have hf := hw
        generalize H1 = H at hP hS ⊢
        refine lv_istore (lv' := [(6, .int r_4), (5, .int r_3), (0, .ref q_t), (1, .int v1), (2, .int v2), (3, .int v3), (4, .int v4)]) hx hb dX0_comingBackTo_39 hl (by decide) rfl (fun ls hl => ?_)
        refine lv_iload hx hb dX0_comingBackTo_41 (lv_at hl 0 rfl) ?_
        refine lv_iload_n hx hb dX0_comingBackTo_43 rfl (lv_at hl 5 rfl) ?_
        refine lv_icmp_ne (tgt := 49) hx hb dX0_comingBackTo_44 (by decide) (fun hc => ?_) (fun hc => ?_)
        · have hf := hf.1 hc
          refine lv_iload hx hb dX0_comingBackTo_49 (lv_at hl 0 rfl) ?_
          refine lv_istore_n (lv' := [(3, .int r_4), (6, .int r_4), (5, .int r_3), (0, .ref q_t), (1, .int v1), (2, .int v2), (4, .int v4)]) hx hb dX0_comingBackTo_51 rfl hl (by decide) rfl (fun ls hl => ?_)
          refine lv_iinc (v := (v4 + (1 : Int32))) (lv' := [(4, .int ((v4 + (1 : Int32)))), (3, .int r_4), (6, .int r_4), (5, .int r_3), (0, .ref q_t), (1, .int v1), (2, .int v2)]) hx hb dX0_comingBackTo_52 hl (k := 6) rfl rfl (by decide) rfl (fun ls hl => ?_)
          refine lv_goto (tgt := 8) hx hb dX0_comingBackTo_55 (by decide) ?_
          exact ih _ _ _ _ _ hf hP hD hS (lv_sub hl [4, 5, 6, 1, 0] rfl)
        · have hf := hf.2 hc
          refine lv_iload_n hx hb dX0_comingBackTo_47 rfl (lv_at hl 5 rfl) ?_
          exact hret v3 () hf hP hD hS dX0_comingBackTo_48
  unfold wp_X0_comingBackTo at hf
  refine lv_aload_n hx hb dX0_comingBackTo_0 rfl (lv_at hl 0 rfl) ?_
  refine va_get (D := D) (ci := 0) (v := .int t_all) (C := RX0) (T := TX0) (N := 5) hx hb hts hinX0 hown hK hP 0 rfl rfl 1 (by decide) k28 (fun _ h9 => h9) rfl dX0_comingBackTo_1 ?_
  refine lv_istore_n (lv' := [(3, .int t_all), (0, .ref q_t), (1, .int a1), (2, .int a2)]) hx hb dX0_comingBackTo_4 rfl hl (by decide) rfl (fun ls hl => ?_)
  refine lv_iconst (v := (0 : Int32)) hx hb dX0_comingBackTo_5 (by decide) ?_
  refine lv_istore (lv' := [(4, .int (0 : Int32)), (3, .int t_all), (0, .ref q_t), (1, .int a1), (2, .int a2)]) hx hb dX0_comingBackTo_6 hl (by decide) rfl (fun ls hl => ?_)
  obtain ⟨n, hf⟩ := hf
  refine L8 a1 a2 _ ?_  n _ _ _ _ _ hf hP hD hS (lv_sub hl [2, 3, 4, 1, 0] rfl)
  intro v3_5 v4_6 H locs ls hf hP hD hS hl
  refine lv_iload_n hx hb dX0_comingBackTo_58 rfl (lv_at hl 0 rfl) ?_
  exact hret v3_5 () hf hP hD hS dX0_comingBackTo_59
abbrev wd_X0_isClosedFor (cI cZ cB cG : ClassId) (q_t : Nat) (q_t_next : Nat) (q_t_owned : Nat) (q_t_calling : Nat) (t_places : Int32) (t_all : Int32) (t_next : (Nat → Int32)) (t_owned : (Nat → Int32)) : va_W := [(q_t, .inr (0, [.int t_places, .int t_all, .ref q_t_owned, .ref q_t_calling, .ref q_t_next])), (q_t_next, .inl (cI, 20, .inl t_next)), (q_t_owned, .inl (cI, 2, .inl t_owned))]
def wp_X0_isClosedFor (a1 : Int32) (a2 : Int32) (t_places : Int32) (t_all : Int32) (t_next : (Nat → Int32)) (t_owned : (Nat → Int32)) (post : Int32 → Prop) : Prop := (wp_X0_before (((1 : Int32) - a1)) a2 t_all a2 t_places t_next t_owned (fun r_3 => (vp_in a1 2 ∧ (wp_X0_deadEnds t_places t_next (fun r_4 => ((¬ (a2 &&& ((r_3 ||| ((t_owned a1.toNatClampNeg) &&& r_4)) ^^^ (-1 : Int32))) = (0 : Int32) → (post (0 : Int32))) ∧ ((a2 &&& ((r_3 ||| ((t_owned a1.toNatClampNeg) &&& r_4)) ^^^ (-1 : Int32))) = (0 : Int32) → (post (1 : Int32)))))))))
abbrev rm_X0_isClosedFor : Room := { frames := 2, cells := 0, slots := 0, locals := 109 }
theorem in_X0_isClosedFor_X0 : ∀ w ∈ u_ws RX0 TX0 5, w ∈ wsX0_isClosedFor := by decide +kernel
theorem k_X0_isClosedFor_9 : Cond.fieldLink RX0 9 "ParityGame$Board" "owned" "[I" ∈ wsX0_isClosedFor := by decide +kernel
theorem k_X0_isClosedFor_28 : Cond.fieldLink RX0 28 "ParityGame$Board" "all" "I" ∈ wsX0_isClosedFor := by decide +kernel
set_option maxHeartbeats 40000000 in
set_option maxRecDepth 100000 in
theorem c_X0_isClosedFor (l : Launch) (D : va_G) (X : gX) (cI cZ cB cG : ClassId) (sz : Nat) (q_t : Nat) (q_t_next : Nat) (q_t_owned : Nat) (q_t_calling : Nat) (a1 : Int32) (a2 : Int32) (t_places : Int32) (t_all : Int32) (t_next : (Nat → Int32)) (t_owned : (Nat → Int32)) (post : Int32 → Prop) (hf : wp_X0_isClosedFor a1 a2 t_places t_all t_next t_owned post) : Met l yX0_isClosedFor wsX0_isClosedFor rm_X0_isClosedFor (gP D X (gT cI cZ cB cG) sz [.ref q_t, .int a1, .int a2] (wd_X0_isClosedFor cI cZ cB cG q_t q_t_next q_t_owned q_t_calling t_places t_all t_next t_owned)) (va_Qi (fun (r : Int32) (u : Unit) => narrow .boolean (.int r) = .int r ∧ post r) (fun u t => gB D (gT cI cZ cB cG) (va_A (wd_X0_isClosedFor cI cZ cB cG q_t q_t_next q_t_owned q_t_calling t_places t_all t_next t_owned) sz) (wd_X0_isClosedFor cI cZ cB cG q_t q_t_next q_t_owned q_t_calling t_places t_all t_next t_owned) t) (va_A (wd_X0_isClosedFor cI cZ cB cG q_t q_t_next q_t_owned q_t_calling t_places t_all t_next t_owned) sz)) 0 0 (va_A (wd_X0_isClosedFor cI cZ cB cG q_t q_t_next q_t_owned q_t_calling t_places t_all t_next t_owned) sz) := by
  refine g_ofWz (cc := cX0_isClosedFor) (maxL := 4) (by decide +kernel) (Nat.le_of_ble_eq_true rfl) rfl ?_
  intro p e s m args below meth c A Q hx hb hml hown hts hA hK hE H hP hD hS ls hl hret
  have hinX0 := in_X0_isClosedFor_X0
  have k9 := hts _ k_X0_isClosedFor_9
  have k28 := hts _ k_X0_isClosedFor_28
  have hl : lv_has ls 4 [(0, .ref q_t), (1, .int a1), (2, .int a2)] := hl
  unfold wp_X0_isClosedFor at hf
  refine lv_aload_n hx hb dX0_isClosedFor_0 rfl (lv_at hl 0 rfl) ?_
  refine lv_iconst (v := (1 : Int32)) hx hb dX0_isClosedFor_1 (by decide) ?_
  refine lv_iload_n hx hb dX0_isClosedFor_2 rfl (lv_at hl 1 rfl) ?_
  refine lv_isub hx hb dX0_isClosedFor_3 ?_
  refine lv_iload_n hx hb dX0_isClosedFor_4 rfl (lv_at hl 2 rfl) ?_
  refine lv_aload_n hx hb dX0_isClosedFor_5 rfl (lv_at hl 0 rfl) ?_
  refine va_get (D := D) (ci := 0) (v := .int t_all) (C := RX0) (T := TX0) (N := 5) hx hb hts hinX0 hown hK hP 0 rfl rfl 1 (by decide) k28 (fun _ h9 => h9) rfl dX0_isClosedFor_6 ?_
  refine lv_iload_n hx hb dX0_isClosedFor_9 rfl (lv_at hl 2 rfl) ?_
  have hPc := hP.sub (ws' := (wd_X0_before cI cZ cB cG q_t q_t_next q_t_owned q_t_calling t_places t_all t_next t_owned)) [0, 1, 2] rfl
  have hDc := hD.sub (ws' := (wd_X0_before cI cZ cB cG q_t q_t_next q_t_owned q_t_calling t_places t_all t_next t_owned)) [0, 1, 2] (by decide +kernel) rfl
  have hFc := va_free (wc := (wd_X0_before cI cZ cB cG q_t q_t_next q_t_owned q_t_calling t_places t_all t_next t_owned)) hD hS hA [0, 1, 2] rfl
  refine va_calli (va_runV (As := [.int (((1 : Int32) - a1)), .int a2, .int t_all, .int a2]) (rest := []) ⟨hx, hb, hml, hown, hts⟩ (c_X0_before l D X cI cZ cB cG H.size q_t q_t_next q_t_owned q_t_calling (((1 : Int32) - a1)) a2 t_all a2 t_places t_all t_next t_owned _ hf) (cwV 4 hts gX0_isClosedFor_X0_before rfl rfl rfl (by decide +kernel) ⟨Nat.le_of_ble_eq_true rfl, Nat.le_of_ble_eq_true rfl⟩) ⟨g_blind, va_recv hK hPc (ci := 0) (q0 := 0) rfl rfl, fun U hU hW => g_side hU hW hPc hK hDc hE hS hFc⟩ rfl rfl hl.1 rfl (lv_room (Nat.le_of_ble_eq_true rfl)) dX0_isClosedFor_10 ⟨Nat.zero_le _, Nat.zero_le _⟩) hS (fun q _ h => hFc q h) hFc (fun r_3 u t H1 locs ht hvm hw hB hz1 hk1 hS => ?_)
  obtain ⟨hP1, hK1, hD1⟩ := hB
  rw [ht] at hP1
  obtain ⟨hP, hD⟩ := g_back (wc := (wd_X0_before cI cZ cB cG q_t q_t_next q_t_owned q_t_calling t_places t_all t_next t_owned)) (w1 := (wd_X0_before cI cZ cB cG q_t q_t_next q_t_owned q_t_calling t_places t_all t_next t_owned)) hP hD [0, 1, 2] rfl rfl hk1 hP1
  have hP : va_P D vwCl (wd_X0_isClosedFor cI cZ cB cG q_t q_t_next q_t_owned q_t_calling t_places t_all t_next t_owned) H1 := hP
  have hD : va_D A (wd_X0_isClosedFor cI cZ cB cG q_t q_t_next q_t_owned q_t_calling t_places t_all t_next t_owned) := hD
  have hf := hw
  generalize H1 = H at hP hS ⊢
  refine lv_aload_n hx hb dX0_isClosedFor_13 rfl (lv_at hl 0 rfl) ?_
  refine va_get (D := D) (ci := 0) (v := .ref q_t_owned) (C := RX0) (T := TX0) (N := 5) hx hb hts hinX0 hown hK hP 0 rfl rfl 2 (by decide) k9 (fun _ h9 => h9) rfl dX0_isClosedFor_14 ?_
  refine lv_iload_n hx hb dX0_isClosedFor_17 rfl (lv_at hl 1 rfl) ?_
  refine va_iald hx hb hK hP 2 0 rfl rfl (n := 2) hf.1 dX0_isClosedFor_18 ?_
  have hf := hf.2
  refine lv_aload_n hx hb dX0_isClosedFor_19 rfl (lv_at hl 0 rfl) ?_
  have hPc := hP.sub (ws' := (wd_X0_deadEnds cI cZ cB cG q_t q_t_next q_t_owned q_t_calling t_places t_all t_next)) [0, 1] rfl
  have hDc := hD.sub (ws' := (wd_X0_deadEnds cI cZ cB cG q_t q_t_next q_t_owned q_t_calling t_places t_all t_next)) [0, 1] (by decide +kernel) rfl
  have hFc := va_free (wc := (wd_X0_deadEnds cI cZ cB cG q_t q_t_next q_t_owned q_t_calling t_places t_all t_next)) hD hS hA [0, 1] rfl
  refine va_calli (va_runV (As := []) (rest := [.int (t_owned a1.toNatClampNeg), .int r_3]) ⟨hx, hb, hml, hown, hts⟩ (c_X0_deadEnds l D X cI cZ cB cG H.size q_t q_t_next q_t_owned q_t_calling t_places t_all t_next _ hf) (cwV 0 hts gX0_isClosedFor_X0_deadEnds rfl rfl rfl (by decide +kernel) ⟨Nat.le_of_ble_eq_true rfl, Nat.le_of_ble_eq_true rfl⟩) ⟨g_blind, va_recv hK hPc (ci := 0) (q0 := 0) rfl rfl, fun U hU hW => g_side hU hW hPc hK hDc hE hS hFc⟩ rfl rfl hl.1 rfl (lv_room (Nat.le_of_ble_eq_true rfl)) dX0_isClosedFor_20 ⟨Nat.zero_le _, Nat.zero_le _⟩) hS (fun q _ h => hFc q h) hFc (fun r_4 u t H1 locs ht hvm hw hB hz1 hk1 hS => ?_)
  obtain ⟨hP1, hK1, hD1⟩ := hB
  rw [ht] at hP1
  obtain ⟨hP, hD⟩ := g_back (wc := (wd_X0_deadEnds cI cZ cB cG q_t q_t_next q_t_owned q_t_calling t_places t_all t_next)) (w1 := (wd_X0_deadEnds cI cZ cB cG q_t q_t_next q_t_owned q_t_calling t_places t_all t_next)) hP hD [0, 1] rfl rfl hk1 hP1
  have hP : va_P D vwCl (wd_X0_isClosedFor cI cZ cB cG q_t q_t_next q_t_owned q_t_calling t_places t_all t_next t_owned) H1 := hP
  have hD : va_D A (wd_X0_isClosedFor cI cZ cB cG q_t q_t_next q_t_owned q_t_calling t_places t_all t_next t_owned) := hD
  have hf := hw
  generalize H1 = H at hP hS ⊢
  refine lv_iand hx hb dX0_isClosedFor_23 ?_
  refine lv_ior hx hb dX0_isClosedFor_24 ?_
  refine lv_istore_n (lv' := [(3, .int ((r_3 ||| ((t_owned a1.toNatClampNeg) &&& r_4)))), (0, .ref q_t), (1, .int a1), (2, .int a2)]) hx hb dX0_isClosedFor_25 rfl hl (by decide) rfl (fun ls hl => ?_)
  refine lv_iload_n hx hb dX0_isClosedFor_26 rfl (lv_at hl 3 rfl) ?_
  refine lv_iload_n hx hb dX0_isClosedFor_27 rfl (lv_at hl 0 rfl) ?_
  refine lv_iconst (v := (-1 : Int32)) hx hb dX0_isClosedFor_28 (by decide) ?_
  refine lv_ixor hx hb dX0_isClosedFor_29 ?_
  refine lv_iand hx hb dX0_isClosedFor_30 ?_
  refine lv_if_ne (tgt := 38) hx hb dX0_isClosedFor_31 (by decide) (fun hc => ?_) (fun hc => ?_)
  · have hf := hf.1 hc
    refine lv_iconst (v := (0 : Int32)) hx hb dX0_isClosedFor_38 (by decide) ?_
    exact hret (0 : Int32) () (by decide) hf hP hD hS dX0_isClosedFor_39
  · have hf := hf.2 hc
    refine lv_iconst (v := (1 : Int32)) hx hb dX0_isClosedFor_34 (by decide) ?_
    refine lv_goto (tgt := 39) hx hb dX0_isClosedFor_35 (by decide) ?_
    exact hret (1 : Int32) () (by decide) hf hP hD hS dX0_isClosedFor_39
abbrev wd_X0_wonEndless (cI cZ cB cG : ClassId) (q_o0 : Nat) (q_o0_calling : Nat) (q_o0_next : Nat) (q_o0_owned : Nat) (o0_places : Int32) (o0_all : Int32) (o0_calling : (Nat → Int32)) (o0_next : (Nat → Int32)) (o0_owned : (Nat → Int32)) : va_W := [(q_o0, .inr (0, [.int o0_places, .int o0_all, .ref q_o0_owned, .ref q_o0_calling, .ref q_o0_next])), (q_o0_calling, .inl (cI, 10, .inl o0_calling)), (q_o0_next, .inl (cI, 20, .inl o0_next)), (q_o0_owned, .inl (cI, 2, .inl o0_owned))]
def F_X0_wonEndless_25 (v3 : Int32) (v4 : Int32) (o0_places : Int32) (o0_all : Int32) (o0_calling : (Nat → Int32)) (o0_next : (Nat → Int32)) (o0_owned : (Nat → Int32)) (self : Int32 → Int32 → Int32 → Int32 → (Nat → Int32) → (Nat → Int32) → (Nat → Int32) → (Int32 → Prop) → Prop) (K0 : Int32 → Int32 → Prop) (rec : Int32 → Int32 → Prop) (v5 : Int32) (v6 : Int32) : Prop := (((20 : Int32) ≤ v6 → (K0 v5 v6)) ∧ (¬ ((20 : Int32) ≤ v6) → ((v5 = (0 : Int32) → (K0 v5 v6)) ∧ (¬ (v5 = (0 : Int32)) → (vp_in v3 10 ∧ (wp_X0_attract v4 (o0_calling v3.toNatClampNeg) v5 o0_places o0_next o0_owned (fun r_7 => (self ((v5 &&& (r_7 ^^^ (-1 : Int32)))) v3 o0_places o0_all o0_calling o0_next o0_owned (fun r_8 => ((¬ v4 = (0 : Int32) → ((¬ r_8 = (0 : Int32) → (wp_X0_attract (((1 : Int32) - v4)) r_8 v5 o0_places o0_next o0_owned (fun r_9 => (rec ((v5 &&& (r_9 ^^^ (-1 : Int32)))) ((v6 + (1 : Int32))))))) ∧ (r_8 = (0 : Int32) → (K0 v5 v6)))) ∧ (v4 = (0 : Int32) → ((¬ ((v5 &&& (r_7 ^^^ (-1 : Int32))) &&& (r_8 ^^^ (-1 : Int32))) = (0 : Int32) → (wp_X0_attract (((1 : Int32) - v4)) (((v5 &&& (r_7 ^^^ (-1 : Int32))) &&& (r_8 ^^^ (-1 : Int32)))) v5 o0_places o0_next o0_owned (fun r_10 => (rec ((v5 &&& (r_10 ^^^ (-1 : Int32)))) ((v6 + (1 : Int32))))))) ∧ (((v5 &&& (r_7 ^^^ (-1 : Int32))) &&& (r_8 ^^^ (-1 : Int32))) = (0 : Int32) → (K0 v5 v6))))))))))))))
def G_X0_wonEndless (self : Int32 → Int32 → Int32 → Int32 → (Nat → Int32) → (Nat → Int32) → (Nat → Int32) → (Int32 → Prop) → Prop) (a1 : Int32) (a2 : Int32) (o0_places : Int32) (o0_all : Int32) (o0_calling : (Nat → Int32)) (o0_next : (Nat → Int32)) (o0_owned : (Nat → Int32)) (post : Int32 → Prop) : Prop := (wp_X0_greatestCall a1 a2 o0_calling (fun r_6 => ((¬ r_6 = (-1 : Int32) → (∃ n, fx2 (F_X0_wonEndless_25 r_6 ((r_6 &&& (1 : Int32))) o0_places o0_all o0_calling o0_next o0_owned self (fun v5_11 v6_12 => ((¬ (r_6 &&& (1 : Int32)) = (0 : Int32) → (post ((a1 &&& (v5_11 ^^^ (-1 : Int32)))))) ∧ ((r_6 &&& (1 : Int32)) = (0 : Int32) → (post v5_11))))) n a1 (0 : Int32))) ∧ (r_6 = (-1 : Int32) → (post (0 : Int32))))))
def wp_X0_wonEndless : Nat → Int32 → Int32 → Int32 → Int32 → (Nat → Int32) → (Nat → Int32) → (Nat → Int32) → (Int32 → Prop) → Prop
  | 0 => fun _ _ _ _ _ _ _ _ => False
  | d + 1 => G_X0_wonEndless (wp_X0_wonEndless d)
abbrev rm_X0_wonEndless (d : Nat) : Room := { frames := 3 + d, cells := 0, slots := 0, locals := 135 + 40 * d }
theorem in_X0_wonEndless_X0 : ∀ w ∈ u_ws RX0 TX0 5, w ∈ wsX0_wonEndless := by decide +kernel
theorem k_X0_wonEndless_15 : Cond.fieldLink RX0 15 "ParityGame$Board" "calling" "[I" ∈ wsX0_wonEndless := by decide +kernel
set_option maxHeartbeats 40000000 in
set_option maxRecDepth 100000 in
theorem c_X0_wonEndless (l : Launch) (D : va_G) (X : gX) (cI cZ cB cG : ClassId) : ∀ (d : Nat)  (sz : Nat) (q_o0 : Nat) (q_o0_calling : Nat) (q_o0_next : Nat) (q_o0_owned : Nat) (a1 : Int32) (a2 : Int32) (o0_places : Int32) (o0_all : Int32) (o0_calling : (Nat → Int32)) (o0_next : (Nat → Int32)) (o0_owned : (Nat → Int32)) (post : Int32 → Prop) (hf : wp_X0_wonEndless d a1 a2 o0_places o0_all o0_calling o0_next o0_owned post), Met l yX0_wonEndless wsX0_wonEndless (rm_X0_wonEndless d) (gP D X (gT cI cZ cB cG) sz [.ref q_o0, .int a1, .int a2] (wd_X0_wonEndless cI cZ cB cG q_o0 q_o0_calling q_o0_next q_o0_owned o0_places o0_all o0_calling o0_next o0_owned)) (va_Qi (fun (r : Int32) (u : Unit) => post r) (fun u t => gB D (gT cI cZ cB cG) (va_A (wd_X0_wonEndless cI cZ cB cG q_o0 q_o0_calling q_o0_next q_o0_owned o0_places o0_all o0_calling o0_next o0_owned) sz) (wd_X0_wonEndless cI cZ cB cG q_o0 q_o0_calling q_o0_next q_o0_owned o0_places o0_all o0_calling o0_next o0_owned) t) (va_A (wd_X0_wonEndless cI cZ cB cG q_o0 q_o0_calling q_o0_next q_o0_owned o0_places o0_all o0_calling o0_next o0_owned) sz)) 0 0 (va_A (wd_X0_wonEndless cI cZ cB cG q_o0 q_o0_calling q_o0_next q_o0_owned o0_places o0_all o0_calling o0_next o0_owned) sz) := by
  intro d
  induction d with
  | zero => intro sz q_o0 q_o0_calling q_o0_next q_o0_owned a1 a2 o0_places o0_all o0_calling o0_next o0_owned post hf; exact (hf : False).elim
  | succ d ihd =>
  intro sz q_o0 q_o0_calling q_o0_next q_o0_owned a1 a2 o0_places o0_all o0_calling o0_next o0_owned post hf
  have hf : G_X0_wonEndless (wp_X0_wonEndless d) a1 a2 o0_places o0_all o0_calling o0_next o0_owned post := hf
  obtain ⟨self, hself⟩ : ∃ f, f = wp_X0_wonEndless d := ⟨_, rfl⟩
  rw [← hself] at hf ihd
  refine g_ofWi (cc := cX0_wonEndless) (maxL := 10) (by decide +kernel) (Nat.le_of_ble_eq_true rfl) rfl ?_
  intro p e s m args below meth c A Q hx hb hml hown hts hA hK hE H hP hD hS ls hl hret
  have hinX0 := in_X0_wonEndless_X0
  have k15 := hts _ k_X0_wonEndless_15
  have hl : lv_has ls 10 [(0, .ref q_o0), (1, .int a1), (2, .int a2)] := hl
  have L25 : ∀ (v1 : Int32) (v3 : Int32) (v4 : Int32) (K0 : Int32 → Int32 → Prop) (_ : ∀ (v5 : Int32) (v6 : Int32) (H : Heap) (locs : List Loc) (ls : Array Slot), K0 v5 v6 → va_P D vwCl (wd_X0_wonEndless cI cZ cB cG q_o0 q_o0_calling q_o0_next q_o0_owned o0_places o0_all o0_calling o0_next o0_owned) H → va_D A (wd_X0_wonEndless cI cZ cB cG q_o0 q_o0_calling q_o0_next q_o0_owned o0_places o0_all o0_calling o0_next o0_owned) → va_S A s.heap H locs → lv_has ls 10 [(1, .int v1), (4, .int v4), (5, .int v5)] → W p l e (rm_X0_wonEndless (d + 1)) s m args below meth c H locs 0 0 Q (F0 m 119 ls []))  (n : Nat) (v5 : Int32) (v6 : Int32) (H : Heap) (locs : List Loc) (ls : Array Slot), fx2 (F_X0_wonEndless_25 v3 v4 o0_places o0_all o0_calling o0_next o0_owned self K0) n v5 v6 → va_P D vwCl (wd_X0_wonEndless cI cZ cB cG q_o0 q_o0_calling q_o0_next q_o0_owned o0_places o0_all o0_calling o0_next o0_owned) H → va_D A (wd_X0_wonEndless cI cZ cB cG q_o0 q_o0_calling q_o0_next q_o0_owned o0_places o0_all o0_calling o0_next o0_owned) → va_S A s.heap H locs → lv_has ls 10 [(0, .ref q_o0), (1, .int v1), (3, .int v3), (4, .int v4), (5, .int v5), (6, .int v6)] → W p l e (rm_X0_wonEndless (d + 1)) s m args below meth c H locs 0 0 Q (F0 m 25 ls []) := by
    intro v1 v3 v4 K0 hK0 n
    induction n with
    | zero => intro v5 v6 H locs ls hf; exact (hf : False).elim
    | succ n ih =>
      intro v5 v6 H locs ls hf hP hD hS hl
      have hf : F_X0_wonEndless_25 v3 v4 o0_places o0_all o0_calling o0_next o0_owned self K0 (fx2 (F_X0_wonEndless_25 v3 v4 o0_places o0_all o0_calling o0_next o0_owned self K0) n) v5 v6 := hf
      unfold F_X0_wonEndless_25 at hf
      refine lv_iload hx hb dX0_wonEndless_25 (lv_at hl 5 rfl) ?_
      refine lv_bipush (v := (20 : Int32)) hx hb dX0_wonEndless_27 (by decide) ?_
      refine lv_icmp_ge (tgt := 119) hx hb dX0_wonEndless_29 (by decide) (fun hc => ?_) (fun hc => ?_)
      · have hf := hf.1 hc
        exact hK0 _ _ _ _ _ hf hP hD hS (lv_sub hl [1, 3, 4] rfl)
      · have hf := hf.2 hc
        refine lv_iload hx hb dX0_wonEndless_32 (lv_at hl 4 rfl) ?_
        refine lv_if_eq (tgt := 119) hx hb dX0_wonEndless_34 (by decide) (fun hc => ?_) (fun hc => ?_)
        · have hf := hf.1 hc
          exact hK0 _ _ _ _ _ hf hP hD hS (lv_sub hl [1, 3, 4] rfl)
        · have hf := hf.2 hc
          refine lv_iload hx hb dX0_wonEndless_37 (lv_at hl 4 rfl) ?_
          refine lv_aload_n hx hb dX0_wonEndless_39 rfl (lv_at hl 0 rfl) ?_
          refine lv_iload hx hb dX0_wonEndless_40 (lv_at hl 3 rfl) ?_
          refine lv_aload_n hx hb dX0_wonEndless_42 rfl (lv_at hl 0 rfl) ?_
          refine va_get (D := D) (ci := 0) (v := .ref q_o0_calling) (C := RX0) (T := TX0) (N := 5) hx hb hts hinX0 hown hK hP 0 rfl rfl 3 (by decide) k15 (fun _ h9 => h9) rfl dX0_wonEndless_43 ?_
          refine lv_iload_n hx hb dX0_wonEndless_46 rfl (lv_at hl 2 rfl) ?_
          refine va_iald hx hb hK hP 1 0 rfl rfl (n := 10) hf.1 dX0_wonEndless_47 ?_
          have hf := hf.2
          refine lv_iload hx hb dX0_wonEndless_48 (lv_at hl 4 rfl) ?_
          have hPc := hP.sub (ws' := (wd_X0_attract cI cZ cB cG q_o0 q_o0_next q_o0_owned q_o0_calling o0_places o0_all o0_next o0_owned)) [0, 2, 3] rfl
          have hDc := hD.sub (ws' := (wd_X0_attract cI cZ cB cG q_o0 q_o0_next q_o0_owned q_o0_calling o0_places o0_all o0_next o0_owned)) [0, 2, 3] (by decide +kernel) rfl
          have hFc := va_free (wc := (wd_X0_attract cI cZ cB cG q_o0 q_o0_next q_o0_owned q_o0_calling o0_places o0_all o0_next o0_owned)) hD hS hA [0, 2, 3] rfl
          refine va_calli (va_runV (As := [.int v4, .int (o0_calling v3.toNatClampNeg), .int v5]) (rest := [.int v5]) ⟨hx, hb, hml, hown, hts⟩ (c_X0_attract l D X cI cZ cB cG H.size q_o0 q_o0_next q_o0_owned q_o0_calling v4 (o0_calling v3.toNatClampNeg) v5 o0_places o0_all o0_next o0_owned _ hf) (cwV 3 hts gX0_wonEndless_X0_attract rfl rfl rfl (by decide +kernel) ⟨g_rec3 (by decide), g_rec3 (by decide)⟩) ⟨g_blind, va_recv hK hPc (ci := 0) (q0 := 0) rfl rfl, fun U hU hW => g_side hU hW hPc hK hDc hE hS hFc⟩ rfl rfl hl.1 rfl (lv_room (Nat.le_of_ble_eq_true rfl)) dX0_wonEndless_50 ⟨Nat.zero_le _, Nat.zero_le _⟩) hS (fun q _ h => hFc q h) hFc (fun r_7 u t H1 locs ht hvm hw hB hz1 hk1 hS => ?_)
          obtain ⟨hP1, hK1, hD1⟩ := hB
          rw [ht] at hP1
          obtain ⟨hP, hD⟩ := g_back (wc := (wd_X0_attract cI cZ cB cG q_o0 q_o0_next q_o0_owned q_o0_calling o0_places o0_all o0_next o0_owned)) (w1 := (wd_X0_attract cI cZ cB cG q_o0 q_o0_next q_o0_owned q_o0_calling o0_places o0_all o0_next o0_owned)) hP hD [0, 2, 3] rfl rfl hk1 hP1
          have hP : va_P D vwCl (wd_X0_wonEndless cI cZ cB cG q_o0 q_o0_calling q_o0_next q_o0_owned o0_places o0_all o0_calling o0_next o0_owned) H1 := hP
          have hD : va_D A (wd_X0_wonEndless cI cZ cB cG q_o0 q_o0_calling q_o0_next q_o0_owned o0_places o0_all o0_calling o0_next o0_owned) := hD
          have hf := hw
          generalize H1 = H at hP hS ⊢
          refine lv_iconst (v := (-1 : Int32)) hx hb dX0_wonEndless_53 (by decide) ?_
          refine lv_ixor hx hb dX0_wonEndless_54 ?_
          refine lv_iand hx hb dX0_wonEndless_55 ?_
          refine lv_istore (lv' := [(7, .int ((v5 &&& (r_7 ^^^ (-1 : Int32))))), (0, .ref q_o0), (1, .int v1), (3, .int v3), (4, .int v4), (5, .int v5), (6, .int v6)]) hx hb dX0_wonEndless_56 hl (by decide) rfl (fun ls hl => ?_)
          refine lv_aload_n hx hb dX0_wonEndless_58 rfl (lv_at hl 1 rfl) ?_
          refine lv_iload hx hb dX0_wonEndless_59 (lv_at hl 0 rfl) ?_
          refine lv_iload_n hx hb dX0_wonEndless_61 rfl (lv_at hl 3 rfl) ?_
          have hPc := hP.sub (ws' := (wd_X0_wonEndless cI cZ cB cG q_o0 q_o0_calling q_o0_next q_o0_owned o0_places o0_all o0_calling o0_next o0_owned)) [0, 1, 2, 3] rfl
          have hDc := hD.sub (ws' := (wd_X0_wonEndless cI cZ cB cG q_o0 q_o0_calling q_o0_next q_o0_owned o0_places o0_all o0_calling o0_next o0_owned)) [0, 1, 2, 3] (by decide +kernel) rfl
          have hFc := va_free (wc := (wd_X0_wonEndless cI cZ cB cG q_o0 q_o0_calling q_o0_next q_o0_owned o0_places o0_all o0_calling o0_next o0_owned)) hD hS hA [0, 1, 2, 3] rfl
          refine va_calli (va_runS (As := [.ref q_o0, .int ((v5 &&& (r_7 ^^^ (-1 : Int32)))), .int v3]) (rest := []) ⟨hx, hb, hml, hown, hts⟩ (ihd H.size q_o0 q_o0_calling q_o0_next q_o0_owned ((v5 &&& (r_7 ^^^ (-1 : Int32)))) v3 o0_places o0_all o0_calling o0_next o0_owned _ hf) (va_cwS 3 hts gX0_wonEndless_X0_wonEndless rfl rfl rfl (by decide +kernel) ⟨g_rec1, g_rec2⟩) ⟨g_blind, fun U hU hW => g_side hU hW hPc hK hDc hE hS hFc⟩ rfl rfl hl.1 rfl (lv_room (Nat.le_of_ble_eq_true rfl)) dX0_wonEndless_62 ⟨Nat.zero_le _, Nat.zero_le _⟩) hS (fun q _ h => hFc q h) hFc (fun r_8 u t H1 locs ht hvm hw hB hz1 hk1 hS => ?_)
          obtain ⟨hP1, hK1, hD1⟩ := hB
          rw [ht] at hP1
          obtain ⟨hP, hD⟩ := g_back (wc := (wd_X0_wonEndless cI cZ cB cG q_o0 q_o0_calling q_o0_next q_o0_owned o0_places o0_all o0_calling o0_next o0_owned)) (w1 := (wd_X0_wonEndless cI cZ cB cG q_o0 q_o0_calling q_o0_next q_o0_owned o0_places o0_all o0_calling o0_next o0_owned)) hP hD [0, 1, 2, 3] rfl rfl hk1 hP1
          have hP : va_P D vwCl (wd_X0_wonEndless cI cZ cB cG q_o0 q_o0_calling q_o0_next q_o0_owned o0_places o0_all o0_calling o0_next o0_owned) H1 := hP
          have hD : va_D A (wd_X0_wonEndless cI cZ cB cG q_o0 q_o0_calling q_o0_next q_o0_owned o0_places o0_all o0_calling o0_next o0_owned) := hD
          have hf := hw
          generalize H1 = H at hP hS ⊢
          refine lv_istore (lv' := [(8, .int r_8), (7, .int ((v5 &&& (r_7 ^^^ (-1 : Int32))))), (0, .ref q_o0), (1, .int v1), (3, .int v3), (4, .int v4), (5, .int v5), (6, .int v6)]) hx hb dX0_wonEndless_65 hl (by decide) rfl (fun ls hl => ?_)
          refine lv_iload hx hb dX0_wonEndless_67 (lv_at hl 5 rfl) ?_
          refine lv_if_ne (tgt := 82) hx hb dX0_wonEndless_69 (by decide) (fun hc => ?_) (fun hc => ?_)
          · have hf := hf.1 hc
            refine lv_iload hx hb dX0_wonEndless_82 (lv_at hl 0 rfl) ?_
            refine lv_istore (lv' := [(9, .int r_8), (8, .int r_8), (7, .int ((v5 &&& (r_7 ^^^ (-1 : Int32))))), (0, .ref q_o0), (1, .int v1), (3, .int v3), (4, .int v4), (5, .int v5), (6, .int v6)]) hx hb dX0_wonEndless_84 hl (by decide) rfl (fun ls hl => ?_)
            refine lv_iload hx hb dX0_wonEndless_86 (lv_at hl 0 rfl) ?_
            refine lv_if_ne (tgt := 94) hx hb dX0_wonEndless_88 (by decide) (fun hc => ?_) (fun hc => ?_)
            · have hf := hf.1 hc
              refine lv_iload hx hb dX0_wonEndless_94 (lv_at hl 7 rfl) ?_
              refine lv_aload_n hx hb dX0_wonEndless_96 rfl (lv_at hl 3 rfl) ?_
              refine lv_iconst (v := (1 : Int32)) hx hb dX0_wonEndless_97 (by decide) ?_
              refine lv_iload hx hb dX0_wonEndless_98 (lv_at hl 6 rfl) ?_
              refine lv_isub hx hb dX0_wonEndless_100 ?_
              refine lv_iload hx hb dX0_wonEndless_101 (lv_at hl 0 rfl) ?_
              refine lv_iload hx hb dX0_wonEndless_103 (lv_at hl 7 rfl) ?_
              have hPc := hP.sub (ws' := (wd_X0_attract cI cZ cB cG q_o0 q_o0_next q_o0_owned q_o0_calling o0_places o0_all o0_next o0_owned)) [0, 2, 3] rfl
              have hDc := hD.sub (ws' := (wd_X0_attract cI cZ cB cG q_o0 q_o0_next q_o0_owned q_o0_calling o0_places o0_all o0_next o0_owned)) [0, 2, 3] (by decide +kernel) rfl
              have hFc := va_free (wc := (wd_X0_attract cI cZ cB cG q_o0 q_o0_next q_o0_owned q_o0_calling o0_places o0_all o0_next o0_owned)) hD hS hA [0, 2, 3] rfl
              refine va_calli (va_runV (As := [.int (((1 : Int32) - v4)), .int r_8, .int v5]) (rest := [.int v5]) ⟨hx, hb, hml, hown, hts⟩ (c_X0_attract l D X cI cZ cB cG H.size q_o0 q_o0_next q_o0_owned q_o0_calling (((1 : Int32) - v4)) r_8 v5 o0_places o0_all o0_next o0_owned _ hf) (cwV 3 hts gX0_wonEndless_X0_attract rfl rfl rfl (by decide +kernel) ⟨g_rec3 (by decide), g_rec3 (by decide)⟩) ⟨g_blind, va_recv hK hPc (ci := 0) (q0 := 0) rfl rfl, fun U hU hW => g_side hU hW hPc hK hDc hE hS hFc⟩ rfl rfl hl.1 rfl (lv_room (Nat.le_of_ble_eq_true rfl)) dX0_wonEndless_105 ⟨Nat.zero_le _, Nat.zero_le _⟩) hS (fun q _ h => hFc q h) hFc (fun r_9 u t H1 locs ht hvm hw hB hz1 hk1 hS => ?_)
              obtain ⟨hP1, hK1, hD1⟩ := hB
              rw [ht] at hP1
              obtain ⟨hP, hD⟩ := g_back (wc := (wd_X0_attract cI cZ cB cG q_o0 q_o0_next q_o0_owned q_o0_calling o0_places o0_all o0_next o0_owned)) (w1 := (wd_X0_attract cI cZ cB cG q_o0 q_o0_next q_o0_owned q_o0_calling o0_places o0_all o0_next o0_owned)) hP hD [0, 2, 3] rfl rfl hk1 hP1
              have hP : va_P D vwCl (wd_X0_wonEndless cI cZ cB cG q_o0 q_o0_calling q_o0_next q_o0_owned o0_places o0_all o0_calling o0_next o0_owned) H1 := hP
              have hD : va_D A (wd_X0_wonEndless cI cZ cB cG q_o0 q_o0_calling q_o0_next q_o0_owned o0_places o0_all o0_calling o0_next o0_owned) := hD
              have hf := hw
              generalize H1 = H at hP hS ⊢
              refine lv_iconst (v := (-1 : Int32)) hx hb dX0_wonEndless_108 (by decide) ?_
              refine lv_ixor hx hb dX0_wonEndless_109 ?_
              refine lv_iand hx hb dX0_wonEndless_110 ?_
              refine lv_istore (lv' := [(5, .int ((v5 &&& (r_9 ^^^ (-1 : Int32))))), (9, .int r_8), (8, .int r_8), (7, .int ((v5 &&& (r_7 ^^^ (-1 : Int32))))), (0, .ref q_o0), (1, .int v1), (3, .int v3), (4, .int v4), (6, .int v6)]) hx hb dX0_wonEndless_111 hl (by decide) rfl (fun ls hl => ?_)
              refine lv_iinc (v := (v6 + (1 : Int32))) (lv' := [(6, .int ((v6 + (1 : Int32)))), (5, .int ((v5 &&& (r_9 ^^^ (-1 : Int32))))), (9, .int r_8), (8, .int r_8), (7, .int ((v5 &&& (r_7 ^^^ (-1 : Int32))))), (0, .ref q_o0), (1, .int v1), (3, .int v3), (4, .int v4)]) hx hb dX0_wonEndless_113 hl (k := 8) rfl rfl (by decide) rfl (fun ls hl => ?_)
              refine lv_goto (tgt := 25) hx hb dX0_wonEndless_116 (by decide) ?_
              exact ih _ _ _ _ _ hf hP hD hS (lv_sub hl [5, 6, 7, 8, 1, 0] rfl)
            · have hf := hf.2 hc
              refine lv_goto (tgt := 119) hx hb dX0_wonEndless_91 (by decide) ?_
              exact hK0 _ _ _ _ _ hf hP hD hS (lv_sub hl [4, 6, 7] rfl)
          · have hf := hf.2 hc
            refine lv_iload hx hb dX0_wonEndless_72 (lv_at hl 1 rfl) ?_
            refine lv_iload hx hb dX0_wonEndless_74 (lv_at hl 0 rfl) ?_
            refine lv_iconst (v := (-1 : Int32)) hx hb dX0_wonEndless_76 (by decide) ?_
            refine lv_ixor hx hb dX0_wonEndless_77 ?_
            refine lv_iand hx hb dX0_wonEndless_78 ?_
            refine lv_goto (tgt := 84) hx hb dX0_wonEndless_79 (by decide) ?_
            refine lv_istore (lv' := [(9, .int (((v5 &&& (r_7 ^^^ (-1 : Int32))) &&& (r_8 ^^^ (-1 : Int32))))), (8, .int r_8), (7, .int ((v5 &&& (r_7 ^^^ (-1 : Int32))))), (0, .ref q_o0), (1, .int v1), (3, .int v3), (4, .int v4), (5, .int v5), (6, .int v6)]) hx hb dX0_wonEndless_84 hl (by decide) rfl (fun ls hl => ?_)
            refine lv_iload hx hb dX0_wonEndless_86 (lv_at hl 0 rfl) ?_
            refine lv_if_ne (tgt := 94) hx hb dX0_wonEndless_88 (by decide) (fun hc => ?_) (fun hc => ?_)
            · have hf := hf.1 hc
              refine lv_iload hx hb dX0_wonEndless_94 (lv_at hl 7 rfl) ?_
              refine lv_aload_n hx hb dX0_wonEndless_96 rfl (lv_at hl 3 rfl) ?_
              refine lv_iconst (v := (1 : Int32)) hx hb dX0_wonEndless_97 (by decide) ?_
              refine lv_iload hx hb dX0_wonEndless_98 (lv_at hl 6 rfl) ?_
              refine lv_isub hx hb dX0_wonEndless_100 ?_
              refine lv_iload hx hb dX0_wonEndless_101 (lv_at hl 0 rfl) ?_
              refine lv_iload hx hb dX0_wonEndless_103 (lv_at hl 7 rfl) ?_
              have hPc := hP.sub (ws' := (wd_X0_attract cI cZ cB cG q_o0 q_o0_next q_o0_owned q_o0_calling o0_places o0_all o0_next o0_owned)) [0, 2, 3] rfl
              have hDc := hD.sub (ws' := (wd_X0_attract cI cZ cB cG q_o0 q_o0_next q_o0_owned q_o0_calling o0_places o0_all o0_next o0_owned)) [0, 2, 3] (by decide +kernel) rfl
              have hFc := va_free (wc := (wd_X0_attract cI cZ cB cG q_o0 q_o0_next q_o0_owned q_o0_calling o0_places o0_all o0_next o0_owned)) hD hS hA [0, 2, 3] rfl
              refine va_calli (va_runV (As := [.int (((1 : Int32) - v4)), .int (((v5 &&& (r_7 ^^^ (-1 : Int32))) &&& (r_8 ^^^ (-1 : Int32)))), .int v5]) (rest := [.int v5]) ⟨hx, hb, hml, hown, hts⟩ (c_X0_attract l D X cI cZ cB cG H.size q_o0 q_o0_next q_o0_owned q_o0_calling (((1 : Int32) - v4)) (((v5 &&& (r_7 ^^^ (-1 : Int32))) &&& (r_8 ^^^ (-1 : Int32)))) v5 o0_places o0_all o0_next o0_owned _ hf) (cwV 3 hts gX0_wonEndless_X0_attract rfl rfl rfl (by decide +kernel) ⟨g_rec3 (by decide), g_rec3 (by decide)⟩) ⟨g_blind, va_recv hK hPc (ci := 0) (q0 := 0) rfl rfl, fun U hU hW => g_side hU hW hPc hK hDc hE hS hFc⟩ rfl rfl hl.1 rfl (lv_room (Nat.le_of_ble_eq_true rfl)) dX0_wonEndless_105 ⟨Nat.zero_le _, Nat.zero_le _⟩) hS (fun q _ h => hFc q h) hFc (fun r_10 u t H1 locs ht hvm hw hB hz1 hk1 hS => ?_)
              obtain ⟨hP1, hK1, hD1⟩ := hB
              rw [ht] at hP1
              obtain ⟨hP, hD⟩ := g_back (wc := (wd_X0_attract cI cZ cB cG q_o0 q_o0_next q_o0_owned q_o0_calling o0_places o0_all o0_next o0_owned)) (w1 := (wd_X0_attract cI cZ cB cG q_o0 q_o0_next q_o0_owned q_o0_calling o0_places o0_all o0_next o0_owned)) hP hD [0, 2, 3] rfl rfl hk1 hP1
              have hP : va_P D vwCl (wd_X0_wonEndless cI cZ cB cG q_o0 q_o0_calling q_o0_next q_o0_owned o0_places o0_all o0_calling o0_next o0_owned) H1 := hP
              have hD : va_D A (wd_X0_wonEndless cI cZ cB cG q_o0 q_o0_calling q_o0_next q_o0_owned o0_places o0_all o0_calling o0_next o0_owned) := hD
              have hf := hw
              generalize H1 = H at hP hS ⊢
              refine lv_iconst (v := (-1 : Int32)) hx hb dX0_wonEndless_108 (by decide) ?_
              refine lv_ixor hx hb dX0_wonEndless_109 ?_
              refine lv_iand hx hb dX0_wonEndless_110 ?_
              refine lv_istore (lv' := [(5, .int ((v5 &&& (r_10 ^^^ (-1 : Int32))))), (9, .int (((v5 &&& (r_7 ^^^ (-1 : Int32))) &&& (r_8 ^^^ (-1 : Int32))))), (8, .int r_8), (7, .int ((v5 &&& (r_7 ^^^ (-1 : Int32))))), (0, .ref q_o0), (1, .int v1), (3, .int v3), (4, .int v4), (6, .int v6)]) hx hb dX0_wonEndless_111 hl (by decide) rfl (fun ls hl => ?_)
              refine lv_iinc (v := (v6 + (1 : Int32))) (lv' := [(6, .int ((v6 + (1 : Int32)))), (5, .int ((v5 &&& (r_10 ^^^ (-1 : Int32))))), (9, .int (((v5 &&& (r_7 ^^^ (-1 : Int32))) &&& (r_8 ^^^ (-1 : Int32))))), (8, .int r_8), (7, .int ((v5 &&& (r_7 ^^^ (-1 : Int32))))), (0, .ref q_o0), (1, .int v1), (3, .int v3), (4, .int v4)]) hx hb dX0_wonEndless_113 hl (k := 8) rfl rfl (by decide) rfl (fun ls hl => ?_)
              refine lv_goto (tgt := 25) hx hb dX0_wonEndless_116 (by decide) ?_
              exact ih _ _ _ _ _ hf hP hD hS (lv_sub hl [5, 6, 7, 8, 1, 0] rfl)
            · have hf := hf.2 hc
              refine lv_goto (tgt := 119) hx hb dX0_wonEndless_91 (by decide) ?_
              exact hK0 _ _ _ _ _ hf hP hD hS (lv_sub hl [4, 6, 7] rfl)
  unfold G_X0_wonEndless at hf
  refine lv_aload_n hx hb dX0_wonEndless_0 rfl (lv_at hl 0 rfl) ?_
  refine lv_iload_n hx hb dX0_wonEndless_1 rfl (lv_at hl 1 rfl) ?_
  refine lv_iload_n hx hb dX0_wonEndless_2 rfl (lv_at hl 2 rfl) ?_
  have hPc := hP.sub (ws' := (wd_X0_greatestCall cI cZ cB cG q_o0 q_o0_calling q_o0_owned q_o0_next o0_places o0_all o0_calling)) [0, 1] rfl
  have hDc := hD.sub (ws' := (wd_X0_greatestCall cI cZ cB cG q_o0 q_o0_calling q_o0_owned q_o0_next o0_places o0_all o0_calling)) [0, 1] (by decide +kernel) rfl
  have hFc := va_free (wc := (wd_X0_greatestCall cI cZ cB cG q_o0 q_o0_calling q_o0_owned q_o0_next o0_places o0_all o0_calling)) hD hS hA [0, 1] rfl
  refine va_calli (va_runV (As := [.int a1, .int a2]) (rest := []) ⟨hx, hb, hml, hown, hts⟩ (c_X0_greatestCall l D X cI cZ cB cG H.size q_o0 q_o0_calling q_o0_owned q_o0_next a1 a2 o0_places o0_all o0_calling _ hf) (cwV 2 hts gX0_wonEndless_X0_greatestCall rfl rfl rfl (by decide +kernel) ⟨g_rec3 (by decide), g_rec3 (by decide)⟩) ⟨g_blind, va_recv hK hPc (ci := 0) (q0 := 0) rfl rfl, fun U hU hW => g_side hU hW hPc hK hDc hE hS hFc⟩ rfl rfl hl.1 rfl (lv_room (Nat.le_of_ble_eq_true rfl)) dX0_wonEndless_3 ⟨Nat.zero_le _, Nat.zero_le _⟩) hS (fun q _ h => hFc q h) hFc (fun r_6 u t H1 locs ht hvm hw hB hz1 hk1 hS => ?_)
  obtain ⟨hP1, hK1, hD1⟩ := hB
  rw [ht] at hP1
  obtain ⟨hP, hD⟩ := g_back (wc := (wd_X0_greatestCall cI cZ cB cG q_o0 q_o0_calling q_o0_owned q_o0_next o0_places o0_all o0_calling)) (w1 := (wd_X0_greatestCall cI cZ cB cG q_o0 q_o0_calling q_o0_owned q_o0_next o0_places o0_all o0_calling)) hP hD [0, 1] rfl rfl hk1 hP1
  have hP : va_P D vwCl (wd_X0_wonEndless cI cZ cB cG q_o0 q_o0_calling q_o0_next q_o0_owned o0_places o0_all o0_calling o0_next o0_owned) H1 := hP
  have hD : va_D A (wd_X0_wonEndless cI cZ cB cG q_o0 q_o0_calling q_o0_next q_o0_owned o0_places o0_all o0_calling o0_next o0_owned) := hD
  have hf := hw
  generalize H1 = H at hP hS ⊢
  refine lv_istore_n (lv' := [(3, .int r_6), (0, .ref q_o0), (1, .int a1), (2, .int a2)]) hx hb dX0_wonEndless_6 rfl hl (by decide) rfl (fun ls hl => ?_)
  refine lv_iload_n hx hb dX0_wonEndless_7 rfl (lv_at hl 0 rfl) ?_
  refine lv_iconst (v := (-1 : Int32)) hx hb dX0_wonEndless_8 (by decide) ?_
  refine lv_icmp_ne (tgt := 14) hx hb dX0_wonEndless_9 (by decide) (fun hc => ?_) (fun hc => ?_)
  · have hf := hf.1 hc
    refine lv_iload_n hx hb dX0_wonEndless_14 rfl (lv_at hl 0 rfl) ?_
    refine lv_iconst (v := (1 : Int32)) hx hb dX0_wonEndless_15 (by decide) ?_
    refine lv_iand hx hb dX0_wonEndless_16 ?_
    refine lv_istore (lv' := [(4, .int ((r_6 &&& (1 : Int32)))), (3, .int r_6), (0, .ref q_o0), (1, .int a1), (2, .int a2)]) hx hb dX0_wonEndless_17 hl (by decide) rfl (fun ls hl => ?_)
    refine lv_iload_n hx hb dX0_wonEndless_19 rfl (lv_at hl 3 rfl) ?_
    refine lv_istore (lv' := [(5, .int a1), (4, .int ((r_6 &&& (1 : Int32)))), (3, .int r_6), (0, .ref q_o0), (1, .int a1), (2, .int a2)]) hx hb dX0_wonEndless_20 hl (by decide) rfl (fun ls hl => ?_)
    refine lv_iconst (v := (0 : Int32)) hx hb dX0_wonEndless_22 (by decide) ?_
    refine lv_istore (lv' := [(6, .int (0 : Int32)), (5, .int a1), (4, .int ((r_6 &&& (1 : Int32)))), (3, .int r_6), (0, .ref q_o0), (1, .int a1), (2, .int a2)]) hx hb dX0_wonEndless_23 hl (by decide) rfl (fun ls hl => ?_)
    obtain ⟨n, hf⟩ := hf
    refine L25 a1 r_6 ((r_6 &&& (1 : Int32))) _ ?_  n _ _ _ _ _ hf hP hD hS (lv_sub hl [4, 5, 3, 2, 1, 0] rfl)
    intro v5_11 v6_12 H locs ls hf hP hD hS hl
    refine lv_iload hx hb dX0_wonEndless_119 (lv_at hl 1 rfl) ?_
    refine lv_if_ne (tgt := 129) hx hb dX0_wonEndless_121 (by decide) (fun hc => ?_) (fun hc => ?_)
    · have hf := hf.1 hc
      refine lv_iload_n hx hb dX0_wonEndless_129 rfl (lv_at hl 0 rfl) ?_
      refine lv_iload hx hb dX0_wonEndless_130 (lv_at hl 2 rfl) ?_
      refine lv_iconst (v := (-1 : Int32)) hx hb dX0_wonEndless_132 (by decide) ?_
      refine lv_ixor hx hb dX0_wonEndless_133 ?_
      refine lv_iand hx hb dX0_wonEndless_134 ?_
      exact hret ((a1 &&& (v5_11 ^^^ (-1 : Int32)))) () hf hP hD hS dX0_wonEndless_135
    · have hf := hf.2 hc
      refine lv_iload hx hb dX0_wonEndless_124 (lv_at hl 2 rfl) ?_
      refine lv_goto (tgt := 135) hx hb dX0_wonEndless_126 (by decide) ?_
      exact hret v5_11 () hf hP hD hS dX0_wonEndless_135
  · have hf := hf.2 hc
    refine lv_iconst (v := (0 : Int32)) hx hb dX0_wonEndless_12 (by decide) ?_
    exact hret (0 : Int32) () hf hP hD hS dX0_wonEndless_13
abbrev wd_X0_wonBy (cI cZ cB cG : ClassId) (q_t : Nat) (q_t_calling : Nat) (q_t_next : Nat) (q_t_owned : Nat) (t_places : Int32) (t_all : Int32) (t_calling : (Nat → Int32)) (t_next : (Nat → Int32)) (t_owned : (Nat → Int32)) : va_W := [(q_t, .inr (0, [.int t_places, .int t_all, .ref q_t_owned, .ref q_t_calling, .ref q_t_next])), (q_t_calling, .inl (cI, 10, .inl t_calling)), (q_t_next, .inl (cI, 20, .inl t_next)), (q_t_owned, .inl (cI, 2, .inl t_owned))]
def wp_X0_wonBy (a1 : Int32) (t_places : Int32) (t_all : Int32) (t_calling : (Nat → Int32)) (t_next : (Nat → Int32)) (t_owned : (Nat → Int32)) (post : Int32 → Prop) : Prop := (wp_X0_deadEnds t_places t_next (fun r_5 => (wp_X0_attract (0 : Int32) (((t_owned 1) &&& r_5)) t_all t_places t_next t_owned (fun r_6 => (wp_X0_attract (1 : Int32) (((t_owned 0) &&& r_5)) ((t_all &&& (r_6 ^^^ (-1 : Int32)))) t_places t_next t_owned (fun r_7 => (wp_X0_wonEndless 13 (((t_all &&& (r_6 ^^^ (-1 : Int32))) &&& (r_7 ^^^ (-1 : Int32)))) (10 : Int32) t_places t_all t_calling t_next t_owned (fun r_8 => ((¬ a1 = (0 : Int32) → (post ((t_all &&& ((r_6 ||| r_8) ^^^ (-1 : Int32)))))) ∧ (a1 = (0 : Int32) → (post (r_6 ||| r_8))))))))))))
abbrev rm_X0_wonBy : Room := { frames := 17, cells := 0, slots := 0, locals := 684 }
theorem in_X0_wonBy_X0 : ∀ w ∈ u_ws RX0 TX0 5, w ∈ wsX0_wonBy := by decide +kernel
theorem k_X0_wonBy_9 : Cond.fieldLink RX0 9 "ParityGame$Board" "owned" "[I" ∈ wsX0_wonBy := by decide +kernel
theorem k_X0_wonBy_28 : Cond.fieldLink RX0 28 "ParityGame$Board" "all" "I" ∈ wsX0_wonBy := by decide +kernel
set_option maxHeartbeats 40000000 in
set_option maxRecDepth 100000 in
theorem c_X0_wonBy (l : Launch) (D : va_G) (X : gX) (cI cZ cB cG : ClassId) (sz : Nat) (q_t : Nat) (q_t_calling : Nat) (q_t_next : Nat) (q_t_owned : Nat) (a1 : Int32) (t_places : Int32) (t_all : Int32) (t_calling : (Nat → Int32)) (t_next : (Nat → Int32)) (t_owned : (Nat → Int32)) (post : Int32 → Prop) (hf : wp_X0_wonBy a1 t_places t_all t_calling t_next t_owned post) : Met l yX0_wonBy wsX0_wonBy rm_X0_wonBy (gP D X (gT cI cZ cB cG) sz [.ref q_t, .int a1] (wd_X0_wonBy cI cZ cB cG q_t q_t_calling q_t_next q_t_owned t_places t_all t_calling t_next t_owned)) (va_Qi (fun (r : Int32) (u : Unit) => post r) (fun u t => gB D (gT cI cZ cB cG) (va_A (wd_X0_wonBy cI cZ cB cG q_t q_t_calling q_t_next q_t_owned t_places t_all t_calling t_next t_owned) sz) (wd_X0_wonBy cI cZ cB cG q_t q_t_calling q_t_next q_t_owned t_places t_all t_calling t_next t_owned) t) (va_A (wd_X0_wonBy cI cZ cB cG q_t q_t_calling q_t_next q_t_owned t_places t_all t_calling t_next t_owned) sz)) 0 0 (va_A (wd_X0_wonBy cI cZ cB cG q_t q_t_calling q_t_next q_t_owned t_places t_all t_calling t_next t_owned) sz) := by
  refine g_ofWi (cc := cX0_wonBy) (maxL := 5) (by decide +kernel) (Nat.le_of_ble_eq_true rfl) rfl ?_
  intro p e s m args below meth c A Q hx hb hml hown hts hA hK hE H hP hD hS ls hl hret
  have hinX0 := in_X0_wonBy_X0
  have k9 := hts _ k_X0_wonBy_9
  have k28 := hts _ k_X0_wonBy_28
  have hl : lv_has ls 5 [(0, .ref q_t), (1, .int a1)] := hl
  unfold wp_X0_wonBy at hf
  refine lv_aload_n hx hb dX0_wonBy_0 rfl (lv_at hl 0 rfl) ?_
  have hPc := hP.sub (ws' := (wd_X0_deadEnds cI cZ cB cG q_t q_t_next q_t_owned q_t_calling t_places t_all t_next)) [0, 2] rfl
  have hDc := hD.sub (ws' := (wd_X0_deadEnds cI cZ cB cG q_t q_t_next q_t_owned q_t_calling t_places t_all t_next)) [0, 2] (by decide +kernel) rfl
  have hFc := va_free (wc := (wd_X0_deadEnds cI cZ cB cG q_t q_t_next q_t_owned q_t_calling t_places t_all t_next)) hD hS hA [0, 2] rfl
  refine va_calli (va_runV (As := []) (rest := []) ⟨hx, hb, hml, hown, hts⟩ (c_X0_deadEnds l D X cI cZ cB cG H.size q_t q_t_next q_t_owned q_t_calling t_places t_all t_next _ hf) (cwV 0 hts gX0_wonBy_X0_deadEnds rfl rfl rfl (by decide +kernel) ⟨Nat.le_of_ble_eq_true rfl, Nat.le_of_ble_eq_true rfl⟩) ⟨g_blind, va_recv hK hPc (ci := 0) (q0 := 0) rfl rfl, fun U hU hW => g_side hU hW hPc hK hDc hE hS hFc⟩ rfl rfl hl.1 rfl (lv_room (Nat.le_of_ble_eq_true rfl)) dX0_wonBy_1 ⟨Nat.zero_le _, Nat.zero_le _⟩) hS (fun q _ h => hFc q h) hFc (fun r_5 u t H1 locs ht hvm hw hB hz1 hk1 hS => ?_)
  obtain ⟨hP1, hK1, hD1⟩ := hB
  rw [ht] at hP1
  obtain ⟨hP, hD⟩ := g_back (wc := (wd_X0_deadEnds cI cZ cB cG q_t q_t_next q_t_owned q_t_calling t_places t_all t_next)) (w1 := (wd_X0_deadEnds cI cZ cB cG q_t q_t_next q_t_owned q_t_calling t_places t_all t_next)) hP hD [0, 2] rfl rfl hk1 hP1
  have hP : va_P D vwCl (wd_X0_wonBy cI cZ cB cG q_t q_t_calling q_t_next q_t_owned t_places t_all t_calling t_next t_owned) H1 := hP
  have hD : va_D A (wd_X0_wonBy cI cZ cB cG q_t q_t_calling q_t_next q_t_owned t_places t_all t_calling t_next t_owned) := hD
  have hf := hw
  generalize H1 = H at hP hS ⊢
  refine lv_istore_n (lv' := [(2, .int r_5), (0, .ref q_t), (1, .int a1)]) hx hb dX0_wonBy_4 rfl hl (by decide) rfl (fun ls hl => ?_)
  refine lv_aload_n hx hb dX0_wonBy_5 rfl (lv_at hl 1 rfl) ?_
  refine lv_iconst (v := (0 : Int32)) hx hb dX0_wonBy_6 (by decide) ?_
  refine lv_aload_n hx hb dX0_wonBy_7 rfl (lv_at hl 1 rfl) ?_
  refine va_get (D := D) (ci := 0) (v := .ref q_t_owned) (C := RX0) (T := TX0) (N := 5) hx hb hts hinX0 hown hK hP 0 rfl rfl 2 (by decide) k9 (fun _ h9 => h9) rfl dX0_wonBy_8 ?_
  refine lv_iconst (v := (1 : Int32)) hx hb dX0_wonBy_11 (by decide) ?_
  refine va_iald hx hb hK hP 3 0 rfl rfl (n := 2) (by unfold vp_in; decide) dX0_wonBy_12 ?_
  refine lv_iload_n hx hb dX0_wonBy_13 rfl (lv_at hl 0 rfl) ?_
  refine lv_iand hx hb dX0_wonBy_14 ?_
  refine lv_aload_n hx hb dX0_wonBy_15 rfl (lv_at hl 1 rfl) ?_
  refine va_get (D := D) (ci := 0) (v := .int t_all) (C := RX0) (T := TX0) (N := 5) hx hb hts hinX0 hown hK hP 0 rfl rfl 1 (by decide) k28 (fun _ h9 => h9) rfl dX0_wonBy_16 ?_
  have hPc := hP.sub (ws' := (wd_X0_attract cI cZ cB cG q_t q_t_next q_t_owned q_t_calling t_places t_all t_next t_owned)) [0, 2, 3] rfl
  have hDc := hD.sub (ws' := (wd_X0_attract cI cZ cB cG q_t q_t_next q_t_owned q_t_calling t_places t_all t_next t_owned)) [0, 2, 3] (by decide +kernel) rfl
  have hFc := va_free (wc := (wd_X0_attract cI cZ cB cG q_t q_t_next q_t_owned q_t_calling t_places t_all t_next t_owned)) hD hS hA [0, 2, 3] rfl
  refine va_calli (va_runV (As := [.int (0 : Int32), .int (((t_owned 1) &&& r_5)), .int t_all]) (rest := []) ⟨hx, hb, hml, hown, hts⟩ (c_X0_attract l D X cI cZ cB cG H.size q_t q_t_next q_t_owned q_t_calling (0 : Int32) (((t_owned 1) &&& r_5)) t_all t_places t_all t_next t_owned _ hf) (cwV 3 hts gX0_wonBy_X0_attract rfl rfl rfl (by decide +kernel) ⟨Nat.le_of_ble_eq_true rfl, Nat.le_of_ble_eq_true rfl⟩) ⟨g_blind, va_recv hK hPc (ci := 0) (q0 := 0) rfl rfl, fun U hU hW => g_side hU hW hPc hK hDc hE hS hFc⟩ rfl rfl hl.1 rfl (lv_room (Nat.le_of_ble_eq_true rfl)) dX0_wonBy_19 ⟨Nat.zero_le _, Nat.zero_le _⟩) hS (fun q _ h => hFc q h) hFc (fun r_6 u t H1 locs ht hvm hw hB hz1 hk1 hS => ?_)
  obtain ⟨hP1, hK1, hD1⟩ := hB
  rw [ht] at hP1
  obtain ⟨hP, hD⟩ := g_back (wc := (wd_X0_attract cI cZ cB cG q_t q_t_next q_t_owned q_t_calling t_places t_all t_next t_owned)) (w1 := (wd_X0_attract cI cZ cB cG q_t q_t_next q_t_owned q_t_calling t_places t_all t_next t_owned)) hP hD [0, 2, 3] rfl rfl hk1 hP1
  have hP : va_P D vwCl (wd_X0_wonBy cI cZ cB cG q_t q_t_calling q_t_next q_t_owned t_places t_all t_calling t_next t_owned) H1 := hP
  have hD : va_D A (wd_X0_wonBy cI cZ cB cG q_t q_t_calling q_t_next q_t_owned t_places t_all t_calling t_next t_owned) := hD
  have hf := hw
  generalize H1 = H at hP hS ⊢
  refine lv_istore_n (lv' := [(3, .int r_6), (2, .int r_5), (0, .ref q_t), (1, .int a1)]) hx hb dX0_wonBy_22 rfl hl (by decide) rfl (fun ls hl => ?_)
  refine lv_aload_n hx hb dX0_wonBy_23 rfl (lv_at hl 2 rfl) ?_
  refine va_get (D := D) (ci := 0) (v := .int t_all) (C := RX0) (T := TX0) (N := 5) hx hb hts hinX0 hown hK hP 0 rfl rfl 1 (by decide) k28 (fun _ h9 => h9) rfl dX0_wonBy_24 ?_
  refine lv_iload_n hx hb dX0_wonBy_27 rfl (lv_at hl 0 rfl) ?_
  refine lv_iconst (v := (-1 : Int32)) hx hb dX0_wonBy_28 (by decide) ?_
  refine lv_ixor hx hb dX0_wonBy_29 ?_
  refine lv_iand hx hb dX0_wonBy_30 ?_
  refine lv_istore (lv' := [(4, .int ((t_all &&& (r_6 ^^^ (-1 : Int32))))), (3, .int r_6), (2, .int r_5), (0, .ref q_t), (1, .int a1)]) hx hb dX0_wonBy_31 hl (by decide) rfl (fun ls hl => ?_)
  refine lv_iload hx hb dX0_wonBy_33 (lv_at hl 0 rfl) ?_
  refine lv_aload_n hx hb dX0_wonBy_35 rfl (lv_at hl 3 rfl) ?_
  refine lv_iconst (v := (1 : Int32)) hx hb dX0_wonBy_36 (by decide) ?_
  refine lv_aload_n hx hb dX0_wonBy_37 rfl (lv_at hl 3 rfl) ?_
  refine va_get (D := D) (ci := 0) (v := .ref q_t_owned) (C := RX0) (T := TX0) (N := 5) hx hb hts hinX0 hown hK hP 0 rfl rfl 2 (by decide) k9 (fun _ h9 => h9) rfl dX0_wonBy_38 ?_
  refine lv_iconst (v := (0 : Int32)) hx hb dX0_wonBy_41 (by decide) ?_
  refine va_iald hx hb hK hP 3 0 rfl rfl (n := 2) (by unfold vp_in; decide) dX0_wonBy_42 ?_
  refine lv_iload_n hx hb dX0_wonBy_43 rfl (lv_at hl 2 rfl) ?_
  refine lv_iand hx hb dX0_wonBy_44 ?_
  refine lv_iload hx hb dX0_wonBy_45 (lv_at hl 0 rfl) ?_
  have hPc := hP.sub (ws' := (wd_X0_attract cI cZ cB cG q_t q_t_next q_t_owned q_t_calling t_places t_all t_next t_owned)) [0, 2, 3] rfl
  have hDc := hD.sub (ws' := (wd_X0_attract cI cZ cB cG q_t q_t_next q_t_owned q_t_calling t_places t_all t_next t_owned)) [0, 2, 3] (by decide +kernel) rfl
  have hFc := va_free (wc := (wd_X0_attract cI cZ cB cG q_t q_t_next q_t_owned q_t_calling t_places t_all t_next t_owned)) hD hS hA [0, 2, 3] rfl
  refine va_calli (va_runV (As := [.int (1 : Int32), .int (((t_owned 0) &&& r_5)), .int ((t_all &&& (r_6 ^^^ (-1 : Int32))))]) (rest := [.int ((t_all &&& (r_6 ^^^ (-1 : Int32))))]) ⟨hx, hb, hml, hown, hts⟩ (c_X0_attract l D X cI cZ cB cG H.size q_t q_t_next q_t_owned q_t_calling (1 : Int32) (((t_owned 0) &&& r_5)) ((t_all &&& (r_6 ^^^ (-1 : Int32)))) t_places t_all t_next t_owned _ hf) (cwV 3 hts gX0_wonBy_X0_attract rfl rfl rfl (by decide +kernel) ⟨Nat.le_of_ble_eq_true rfl, Nat.le_of_ble_eq_true rfl⟩) ⟨g_blind, va_recv hK hPc (ci := 0) (q0 := 0) rfl rfl, fun U hU hW => g_side hU hW hPc hK hDc hE hS hFc⟩ rfl rfl hl.1 rfl (lv_room (Nat.le_of_ble_eq_true rfl)) dX0_wonBy_47 ⟨Nat.zero_le _, Nat.zero_le _⟩) hS (fun q _ h => hFc q h) hFc (fun r_7 u t H1 locs ht hvm hw hB hz1 hk1 hS => ?_)
  obtain ⟨hP1, hK1, hD1⟩ := hB
  rw [ht] at hP1
  obtain ⟨hP, hD⟩ := g_back (wc := (wd_X0_attract cI cZ cB cG q_t q_t_next q_t_owned q_t_calling t_places t_all t_next t_owned)) (w1 := (wd_X0_attract cI cZ cB cG q_t q_t_next q_t_owned q_t_calling t_places t_all t_next t_owned)) hP hD [0, 2, 3] rfl rfl hk1 hP1
  have hP : va_P D vwCl (wd_X0_wonBy cI cZ cB cG q_t q_t_calling q_t_next q_t_owned t_places t_all t_calling t_next t_owned) H1 := hP
  have hD : va_D A (wd_X0_wonBy cI cZ cB cG q_t q_t_calling q_t_next q_t_owned t_places t_all t_calling t_next t_owned) := hD
  have hf := hw
  generalize H1 = H at hP hS ⊢
  refine lv_iconst (v := (-1 : Int32)) hx hb dX0_wonBy_50 (by decide) ?_
  refine lv_ixor hx hb dX0_wonBy_51 ?_
  refine lv_iand hx hb dX0_wonBy_52 ?_
  refine lv_istore (lv' := [(4, .int (((t_all &&& (r_6 ^^^ (-1 : Int32))) &&& (r_7 ^^^ (-1 : Int32))))), (3, .int r_6), (2, .int r_5), (0, .ref q_t), (1, .int a1)]) hx hb dX0_wonBy_53 hl (by decide) rfl (fun ls hl => ?_)
  refine lv_iload_n hx hb dX0_wonBy_55 rfl (lv_at hl 1 rfl) ?_
  refine lv_aload_n hx hb dX0_wonBy_56 rfl (lv_at hl 3 rfl) ?_
  refine lv_iload hx hb dX0_wonBy_57 (lv_at hl 0 rfl) ?_
  refine lv_bipush (v := (10 : Int32)) hx hb dX0_wonBy_59 (by decide) ?_
  have hPc := hP.sub (ws' := (wd_X0_wonEndless cI cZ cB cG q_t q_t_calling q_t_next q_t_owned t_places t_all t_calling t_next t_owned)) [0, 1, 2, 3] rfl
  have hDc := hD.sub (ws' := (wd_X0_wonEndless cI cZ cB cG q_t q_t_calling q_t_next q_t_owned t_places t_all t_calling t_next t_owned)) [0, 1, 2, 3] (by decide +kernel) rfl
  have hFc := va_free (wc := (wd_X0_wonEndless cI cZ cB cG q_t q_t_calling q_t_next q_t_owned t_places t_all t_calling t_next t_owned)) hD hS hA [0, 1, 2, 3] rfl
  refine va_calli (va_runS (As := [.ref q_t, .int (((t_all &&& (r_6 ^^^ (-1 : Int32))) &&& (r_7 ^^^ (-1 : Int32)))), .int (10 : Int32)]) (rest := [.int r_6]) ⟨hx, hb, hml, hown, hts⟩ (c_X0_wonEndless l D X cI cZ cB cG 13 H.size q_t q_t_calling q_t_next q_t_owned (((t_all &&& (r_6 ^^^ (-1 : Int32))) &&& (r_7 ^^^ (-1 : Int32)))) (10 : Int32) t_places t_all t_calling t_next t_owned _ hf) (va_cwS 3 hts gX0_wonBy_X0_wonEndless rfl rfl rfl (by decide +kernel) ⟨Nat.le_of_ble_eq_true rfl, Nat.le_of_ble_eq_true rfl⟩) ⟨g_blind, fun U hU hW => g_side hU hW hPc hK hDc hE hS hFc⟩ rfl rfl hl.1 rfl (lv_room (Nat.le_of_ble_eq_true rfl)) dX0_wonBy_61 ⟨Nat.zero_le _, Nat.zero_le _⟩) hS (fun q _ h => hFc q h) hFc (fun r_8 u t H1 locs ht hvm hw hB hz1 hk1 hS => ?_)
  obtain ⟨hP1, hK1, hD1⟩ := hB
  rw [ht] at hP1
  obtain ⟨hP, hD⟩ := g_back (wc := (wd_X0_wonEndless cI cZ cB cG q_t q_t_calling q_t_next q_t_owned t_places t_all t_calling t_next t_owned)) (w1 := (wd_X0_wonEndless cI cZ cB cG q_t q_t_calling q_t_next q_t_owned t_places t_all t_calling t_next t_owned)) hP hD [0, 1, 2, 3] rfl rfl hk1 hP1
  have hP : va_P D vwCl (wd_X0_wonBy cI cZ cB cG q_t q_t_calling q_t_next q_t_owned t_places t_all t_calling t_next t_owned) H1 := hP
  have hD : va_D A (wd_X0_wonBy cI cZ cB cG q_t q_t_calling q_t_next q_t_owned t_places t_all t_calling t_next t_owned) := hD
  have hf := hw
  generalize H1 = H at hP hS ⊢
  refine lv_ior hx hb dX0_wonBy_64 ?_
  refine lv_istore_n (lv' := [(3, .int (r_6 ||| r_8)), (4, .int (((t_all &&& (r_6 ^^^ (-1 : Int32))) &&& (r_7 ^^^ (-1 : Int32))))), (2, .int r_5), (0, .ref q_t), (1, .int a1)]) hx hb dX0_wonBy_65 rfl hl (by decide) rfl (fun ls hl => ?_)
  refine lv_iload_n hx hb dX0_wonBy_66 rfl (lv_at hl 4 rfl) ?_
  refine lv_if_ne (tgt := 74) hx hb dX0_wonBy_67 (by decide) (fun hc => ?_) (fun hc => ?_)
  · have hf := hf.1 hc
    refine lv_aload_n hx hb dX0_wonBy_74 rfl (lv_at hl 3 rfl) ?_
    refine va_get (D := D) (ci := 0) (v := .int t_all) (C := RX0) (T := TX0) (N := 5) hx hb hts hinX0 hown hK hP 0 rfl rfl 1 (by decide) k28 (fun _ h9 => h9) rfl dX0_wonBy_75 ?_
    refine lv_iload_n hx hb dX0_wonBy_78 rfl (lv_at hl 0 rfl) ?_
    refine lv_iconst (v := (-1 : Int32)) hx hb dX0_wonBy_79 (by decide) ?_
    refine lv_ixor hx hb dX0_wonBy_80 ?_
    refine lv_iand hx hb dX0_wonBy_81 ?_
    exact hret ((t_all &&& ((r_6 ||| r_8) ^^^ (-1 : Int32)))) () hf hP hD hS dX0_wonBy_82
  · have hf := hf.2 hc
    refine lv_iload_n hx hb dX0_wonBy_70 rfl (lv_at hl 0 rfl) ?_
    refine lv_goto (tgt := 82) hx hb dX0_wonBy_71 (by decide) ?_
    exact hret (r_6 ||| r_8) () hf hP hD hS dX0_wonBy_82
