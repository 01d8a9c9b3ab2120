abbrev wd_X6_thrown (cI cZ cB cG : ClassId) (q_t : Nat) (q_t_keys : Nat) (q_t_now : Nat) (q_t_aside : Nat) (q_t_old : Nat) (q_t_saved : Nat) (q_t_input : Nat) (q_t_output : Nat) (q_t_live : Nat) (q_t_weight : Nat) (q_t_measure : Nat) (q_t_planned : Nat) (q_t_came : Nat) (q_t_rank : Nat) (t_thrown : Int32) (t_oldMany : Int32) (t_savedSet : Int32) (t_inputMany : Int32) (t_outputMany : Int32) (t_errorCode : Int32) (t_errorPosition : Int32) (t_top : Int32) (t_ahead : Int32) (t_round : Int32) (t_loudest : Int32) (t_textEnd : Int32) (t_kind : Int32) (t_from : Int32) (t_to : Int32) (t_value : Int32) (t_fault : Int32) (t_faultAt : Int32) : va_W := [(q_t, .inr (6, [.ref q_t_keys, .int t_thrown, .ref q_t_now, .ref q_t_aside, .ref q_t_old, .int t_oldMany, .ref q_t_saved, .int t_savedSet, .ref q_t_input, .int t_inputMany, .ref q_t_output, .int t_outputMany, .int t_errorCode, .int t_errorPosition, .ref q_t_live, .ref q_t_weight, .ref q_t_measure, .int t_top, .ref q_t_planned, .ref q_t_came, .ref q_t_rank, .int t_ahead, .int t_round, .int t_loudest, .int t_textEnd, .int t_kind, .int t_from, .int t_to, .int t_value, .int t_fault, .int t_faultAt]))]
def wp_X6_thrown (t_thrown : Int32) (post : Int32 → Prop) : Prop := (post t_thrown)
abbrev rm_X6_thrown : Room := { frames := 1, cells := 0, slots := 0, locals := 80 }
theorem in_X6_thrown_X6 : ∀ w ∈ u_ws RX6 TX6 31, w ∈ wsX6_thrown := by decide +kernel
theorem k_X6_thrown_65 : Cond.fieldLink RX6 65 "ParityGameModel" "thrown" "I" ∈ wsX6_thrown := by decide +kernel
set_option maxHeartbeats 40000000 in
set_option maxRecDepth 100000 in
theorem c_X6_thrown (l : Launch) (D : va_G) (X : gX) (cI cZ cB cG : ClassId) (sz : Nat) (q_t : Nat) (q_t_keys : Nat) (q_t_now : Nat) (q_t_aside : Nat) (q_t_old : Nat) (q_t_saved : Nat) (q_t_input : Nat) (q_t_output : Nat) (q_t_live : Nat) (q_t_weight : Nat) (q_t_measure : Nat) (q_t_planned : Nat) (q_t_came : Nat) (q_t_rank : Nat) (t_thrown : Int32) (t_oldMany : Int32) (t_savedSet : Int32) (t_inputMany : Int32) (t_outputMany : Int32) (t_errorCode : Int32) (t_errorPosition : Int32) (t_top : Int32) (t_ahead : Int32) (t_round : Int32) (t_loudest : Int32) (t_textEnd : Int32) (t_kind : Int32) (t_from : Int32) (t_to : Int32) (t_value : Int32) (t_fault : Int32) (t_faultAt : Int32) (post : Int32 → Prop) (hf : wp_X6_thrown t_thrown post) : Met l yX6_thrown wsX6_thrown rm_X6_thrown (gP D X (gT cI cZ cB cG) sz [.ref q_t] (wd_X6_thrown cI cZ cB cG q_t q_t_keys q_t_now q_t_aside q_t_old q_t_saved q_t_input q_t_output q_t_live q_t_weight q_t_measure q_t_planned q_t_came q_t_rank t_thrown t_oldMany t_savedSet t_inputMany t_outputMany t_errorCode t_errorPosition t_top t_ahead t_round t_loudest t_textEnd t_kind t_from t_to t_value t_fault t_faultAt)) (va_Qi (fun (r : Int32) (u : Unit) => post r) (fun u t => gB D (gT cI cZ cB cG) (va_A (wd_X6_thrown cI cZ cB cG q_t q_t_keys q_t_now q_t_aside q_t_old q_t_saved q_t_input q_t_output q_t_live q_t_weight q_t_measure q_t_planned q_t_came q_t_rank t_thrown t_oldMany t_savedSet t_inputMany t_outputMany t_errorCode t_errorPosition t_top t_ahead t_round t_loudest t_textEnd t_kind t_from t_to t_value t_fault t_faultAt) sz) (wd_X6_thrown cI cZ cB cG q_t q_t_keys q_t_now q_t_aside q_t_old q_t_saved q_t_input q_t_output q_t_live q_t_weight q_t_measure q_t_planned q_t_came q_t_rank t_thrown t_oldMany t_savedSet t_inputMany t_outputMany t_errorCode t_errorPosition t_top t_ahead t_round t_loudest t_textEnd t_kind t_from t_to t_value t_fault t_faultAt) t) (va_A (wd_X6_thrown cI cZ cB cG q_t q_t_keys q_t_now q_t_aside q_t_old q_t_saved q_t_input q_t_output q_t_live q_t_weight q_t_measure q_t_planned q_t_came q_t_rank t_thrown t_oldMany t_savedSet t_inputMany t_outputMany t_errorCode t_errorPosition t_top t_ahead t_round t_loudest t_textEnd t_kind t_from t_to t_value t_fault t_faultAt) sz)) 0 0 (va_A (wd_X6_thrown cI cZ cB cG q_t q_t_keys q_t_now q_t_aside q_t_old q_t_saved q_t_input q_t_output q_t_live q_t_weight q_t_measure q_t_planned q_t_came q_t_rank t_thrown t_oldMany t_savedSet t_inputMany t_outputMany t_errorCode t_errorPosition t_top t_ahead t_round t_loudest t_textEnd t_kind t_from t_to t_value t_fault t_faultAt) sz) := by
  refine g_ofWi (cc := cX6_thrown) (maxL := 1) (by decide +kernel) (Nat.le_of_ble_eq_true rfl) rfl ?_
  intro p e s m args below meth c A Q hx hb hml hown hts hA hK hE H hP hD hS ls hl hret
  have hinX6 := in_X6_thrown_X6
  have k65 := hts _ k_X6_thrown_65
  have hl : lv_has ls 1 [(0, .ref q_t)] := hl
  unfold wp_X6_thrown at hf
  refine lv_aload_n hx hb dX6_thrown_0 rfl (lv_at hl 0 rfl) ?_
  refine va_get (D := D) (ci := 6) (v := .int t_thrown) (C := RX6) (T := TX6) (N := 31) hx hb hts hinX6 hown hK hP 0 rfl rfl 1 (by decide) k65 (fun _ h9 => h9) rfl dX6_thrown_1 ?_
  exact hret t_thrown () hf hP hD hS dX6_thrown_4
abbrev wd_X6_refuse (cI cZ cB cG : ClassId) (q_t : Nat) (q_t_keys : Nat) (q_t_now : Nat) (q_t_aside : Nat) (q_t_old : Nat) (q_t_saved : Nat) (q_t_input : Nat) (q_t_output : Nat) (q_t_live : Nat) (q_t_weight : Nat) (q_t_measure : Nat) (q_t_planned : Nat) (q_t_came : Nat) (q_t_rank : Nat) (t_thrown : Int32) (t_oldMany : Int32) (t_savedSet : Int32) (t_inputMany : Int32) (t_outputMany : Int32) (t_errorCode : Int32) (t_errorPosition : Int32) (t_top : Int32) (t_ahead : Int32) (t_round : Int32) (t_loudest : Int32) (t_textEnd : Int32) (t_kind : Int32) (t_from : Int32) (t_to : Int32) (t_value : Int32) (t_fault : Int32) (t_faultAt : Int32) : va_W := [(q_t, .inr (6, [.ref q_t_keys, .int t_thrown, .ref q_t_now, .ref q_t_aside, .ref q_t_old, .int t_oldMany, .ref q_t_saved, .int t_savedSet, .ref q_t_input, .int t_inputMany, .ref q_t_output, .int t_outputMany, .int t_errorCode, .int t_errorPosition, .ref q_t_live, .ref q_t_weight, .ref q_t_measure, .int t_top, .ref q_t_planned, .ref q_t_came, .ref q_t_rank, .int t_ahead, .int t_round, .int t_loudest, .int t_textEnd, .int t_kind, .int t_from, .int t_to, .int t_value, .int t_fault, .int t_faultAt]))]
def wp_X6_refuse (a1 : Int32) (post : Int32 → Int32 → Prop) : Prop := (post (0 : Int32) a1)
abbrev rm_X6_refuse : Room := { frames := 1, cells := 0, slots := 0, locals := 80 }
theorem in_X6_refuse_X6 : ∀ w ∈ u_ws RX6 TX6 31, w ∈ wsX6_refuse := by decide +kernel
theorem k_X6_refuse_65 : Cond.fieldLink RX6 65 "ParityGameModel" "thrown" "I" ∈ wsX6_refuse := by decide +kernel
set_option maxHeartbeats 40000000 in
set_option maxRecDepth 100000 in
theorem c_X6_refuse (l : Launch) (D : va_G) (X : gX) (cI cZ cB cG : ClassId) (sz : Nat) (q_t : Nat) (q_t_keys : Nat) (q_t_now : Nat) (q_t_aside : Nat) (q_t_old : Nat) (q_t_saved : Nat) (q_t_input : Nat) (q_t_output : Nat) (q_t_live : Nat) (q_t_weight : Nat) (q_t_measure : Nat) (q_t_planned : Nat) (q_t_came : Nat) (q_t_rank : Nat) (a1 : Int32) (t_thrown : Int32) (t_oldMany : Int32) (t_savedSet : Int32) (t_inputMany : Int32) (t_outputMany : Int32) (t_errorCode : Int32) (t_errorPosition : Int32) (t_top : Int32) (t_ahead : Int32) (t_round : Int32) (t_loudest : Int32) (t_textEnd : Int32) (t_kind : Int32) (t_from : Int32) (t_to : Int32) (t_value : Int32) (t_fault : Int32) (t_faultAt : Int32) (post : Int32 → Int32 → Prop) (hf : wp_X6_refuse a1 post) : Met l yX6_refuse wsX6_refuse rm_X6_refuse (gP D X (gT cI cZ cB cG) sz [.ref q_t, .int a1] (wd_X6_refuse cI cZ cB cG q_t q_t_keys q_t_now q_t_aside q_t_old q_t_saved q_t_input q_t_output q_t_live q_t_weight q_t_measure q_t_planned q_t_came q_t_rank t_thrown t_oldMany t_savedSet t_inputMany t_outputMany t_errorCode t_errorPosition t_top t_ahead t_round t_loudest t_textEnd t_kind t_from t_to t_value t_fault t_faultAt)) (va_Qi (fun (r : Int32) (u : Int32) => post r u) (fun u t => gB D (gT cI cZ cB cG) (va_A (wd_X6_refuse cI cZ cB cG q_t q_t_keys q_t_now q_t_aside q_t_old q_t_saved q_t_input q_t_output q_t_live q_t_weight q_t_measure q_t_planned q_t_came q_t_rank t_thrown t_oldMany t_savedSet t_inputMany t_outputMany t_errorCode t_errorPosition t_top t_ahead t_round t_loudest t_textEnd t_kind t_from t_to t_value t_fault t_faultAt) sz) (wd_X6_refuse cI cZ cB cG q_t q_t_keys q_t_now q_t_aside q_t_old q_t_saved q_t_input q_t_output q_t_live q_t_weight q_t_measure q_t_planned q_t_came q_t_rank u t_oldMany t_savedSet t_inputMany t_outputMany t_errorCode t_errorPosition t_top t_ahead t_round t_loudest t_textEnd t_kind t_from t_to t_value t_fault t_faultAt) t) (va_A (wd_X6_refuse cI cZ cB cG q_t q_t_keys q_t_now q_t_aside q_t_old q_t_saved q_t_input q_t_output q_t_live q_t_weight q_t_measure q_t_planned q_t_came q_t_rank t_thrown t_oldMany t_savedSet t_inputMany t_outputMany t_errorCode t_errorPosition t_top t_ahead t_round t_loudest t_textEnd t_kind t_from t_to t_value t_fault t_faultAt) sz)) 0 0 (va_A (wd_X6_refuse cI cZ cB cG q_t q_t_keys q_t_now q_t_aside q_t_old q_t_saved q_t_input q_t_output q_t_live q_t_weight q_t_measure q_t_planned q_t_came q_t_rank t_thrown t_oldMany t_savedSet t_inputMany t_outputMany t_errorCode t_errorPosition t_top t_ahead t_round t_loudest t_textEnd t_kind t_from t_to t_value t_fault t_faultAt) sz) := by
  refine g_ofWi (cc := cX6_refuse) (maxL := 2) (by decide +kernel) (Nat.le_of_ble_eq_true rfl) rfl ?_
  intro p e s m args below meth c A Q hx hb hml hown hts hA hK hE H hP hD hS ls hl hret
  have hinX6 := in_X6_refuse_X6
  have k65 := hts _ k_X6_refuse_65
  have hl : lv_has ls 2 [(0, .ref q_t), (1, .int a1)] := hl
  unfold wp_X6_refuse at hf
  refine lv_aload_n hx hb dX6_refuse_0 rfl (lv_at hl 0 rfl) ?_
  refine lv_iload_n hx hb dX6_refuse_1 rfl (lv_at hl 1 rfl) ?_
  refine va_put (D := D) (ci := 6) (v := .int a1) (ty := .int) (C := RX6) (T := TX6) (N := 31) hx hb hts hinX6 tyX6 tyX6_ok nmX6 hown hK hP hD hS 0 rfl rfl 1 (by decide) k65 (fun _ h9 => h9) rfl (by decide +kernel) rfl rfl (Nat.le_of_ble_eq_true rfl) dX6_refuse_2 (fun H locs hP hD hS => ?_)
  have hP : va_P D vwCl (wd_X6_refuse cI cZ cB cG q_t q_t_keys q_t_now q_t_aside q_t_old q_t_saved q_t_input q_t_output q_t_live q_t_weight q_t_measure q_t_planned q_t_came q_t_rank a1 t_oldMany t_savedSet t_inputMany t_outputMany t_errorCode t_errorPosition t_top t_ahead t_round t_loudest t_textEnd t_kind t_from t_to t_value t_fault t_faultAt) H := hP
  have hD : va_D A (wd_X6_refuse cI cZ cB cG q_t q_t_keys q_t_now q_t_aside q_t_old q_t_saved q_t_input q_t_output q_t_live q_t_weight q_t_measure q_t_planned q_t_came q_t_rank a1 t_oldMany t_savedSet t_inputMany t_outputMany t_errorCode t_errorPosition t_top t_ahead t_round t_loudest t_textEnd t_kind t_from t_to t_value t_fault t_faultAt) := hD
  refine lv_iconst (v := (0 : Int32)) hx hb dX6_refuse_5 (by decide) ?_
  exact hret (0 : Int32) a1 hf hP hD hS dX6_refuse_6
abbrev wd_X6_told (cI cZ cB cG : ClassId) (q_t : Nat) (q_t_keys : Nat) (q_t_now : Nat) (q_t_aside : Nat) (q_t_old : Nat) (q_t_saved : Nat) (q_t_input : Nat) (q_t_output : Nat) (q_t_live : Nat) (q_t_weight : Nat) (q_t_measure : Nat) (q_t_planned : Nat) (q_t_came : Nat) (q_t_rank : Nat) (t_thrown : Int32) (t_oldMany : Int32) (t_savedSet : Int32) (t_inputMany : Int32) (t_outputMany : Int32) (t_errorCode : Int32) (t_errorPosition : Int32) (t_top : Int32) (t_ahead : Int32) (t_round : Int32) (t_loudest : Int32) (t_textEnd : Int32) (t_kind : Int32) (t_from : Int32) (t_to : Int32) (t_value : Int32) (t_fault : Int32) (t_faultAt : Int32) : va_W := [(q_t, .inr (6, [.ref q_t_keys, .int t_thrown, .ref q_t_now, .ref q_t_aside, .ref q_t_old, .int t_oldMany, .ref q_t_saved, .int t_savedSet, .ref q_t_input, .int t_inputMany, .ref q_t_output, .int t_outputMany, .int t_errorCode, .int t_errorPosition, .ref q_t_live, .ref q_t_weight, .ref q_t_measure, .int t_top, .ref q_t_planned, .ref q_t_came, .ref q_t_rank, .int t_ahead, .int t_round, .int t_loudest, .int t_textEnd, .int t_kind, .int t_from, .int t_to, .int t_value, .int t_fault, .int t_faultAt]))]
def wp_X6_told (a1 : Int32) (post : Int32 → Int32 → Prop) : Prop := (post a1 (0 : Int32))
abbrev rm_X6_told : Room := { frames := 1, cells := 0, slots := 0, locals := 80 }
theorem in_X6_told_X6 : ∀ w ∈ u_ws RX6 TX6 31, w ∈ wsX6_told := by decide +kernel
theorem k_X6_told_65 : Cond.fieldLink RX6 65 "ParityGameModel" "thrown" "I" ∈ wsX6_told := by decide +kernel
set_option maxHeartbeats 40000000 in
set_option maxRecDepth 100000 in
theorem c_X6_told (l : Launch) (D : va_G) (X : gX) (cI cZ cB cG : ClassId) (sz : Nat) (q_t : Nat) (q_t_keys : Nat) (q_t_now : Nat) (q_t_aside : Nat) (q_t_old : Nat) (q_t_saved : Nat) (q_t_input : Nat) (q_t_output : Nat) (q_t_live : Nat) (q_t_weight : Nat) (q_t_measure : Nat) (q_t_planned : Nat) (q_t_came : Nat) (q_t_rank : Nat) (a1 : Int32) (t_thrown : Int32) (t_oldMany : Int32) (t_savedSet : Int32) (t_inputMany : Int32) (t_outputMany : Int32) (t_errorCode : Int32) (t_errorPosition : Int32) (t_top : Int32) (t_ahead : Int32) (t_round : Int32) (t_loudest : Int32) (t_textEnd : Int32) (t_kind : Int32) (t_from : Int32) (t_to : Int32) (t_value : Int32) (t_fault : Int32) (t_faultAt : Int32) (post : Int32 → Int32 → Prop) (hf : wp_X6_told a1 post) : Met l yX6_told wsX6_told rm_X6_told (gP D X (gT cI cZ cB cG) sz [.ref q_t, .int a1] (wd_X6_told cI cZ cB cG q_t q_t_keys q_t_now q_t_aside q_t_old q_t_saved q_t_input q_t_output q_t_live q_t_weight q_t_measure q_t_planned q_t_came q_t_rank t_thrown t_oldMany t_savedSet t_inputMany t_outputMany t_errorCode t_errorPosition t_top t_ahead t_round t_loudest t_textEnd t_kind t_from t_to t_value t_fault t_faultAt)) (va_Qi (fun (r : Int32) (u : Int32) => post r u) (fun u t => gB D (gT cI cZ cB cG) (va_A (wd_X6_told cI cZ cB cG q_t q_t_keys q_t_now q_t_aside q_t_old q_t_saved q_t_input q_t_output q_t_live q_t_weight q_t_measure q_t_planned q_t_came q_t_rank t_thrown t_oldMany t_savedSet t_inputMany t_outputMany t_errorCode t_errorPosition t_top t_ahead t_round t_loudest t_textEnd t_kind t_from t_to t_value t_fault t_faultAt) sz) (wd_X6_told cI cZ cB cG q_t q_t_keys q_t_now q_t_aside q_t_old q_t_saved q_t_input q_t_output q_t_live q_t_weight q_t_measure q_t_planned q_t_came q_t_rank u t_oldMany t_savedSet t_inputMany t_outputMany t_errorCode t_errorPosition t_top t_ahead t_round t_loudest t_textEnd t_kind t_from t_to t_value t_fault t_faultAt) t) (va_A (wd_X6_told cI cZ cB cG q_t q_t_keys q_t_now q_t_aside q_t_old q_t_saved q_t_input q_t_output q_t_live q_t_weight q_t_measure q_t_planned q_t_came q_t_rank t_thrown t_oldMany t_savedSet t_inputMany t_outputMany t_errorCode t_errorPosition t_top t_ahead t_round t_loudest t_textEnd t_kind t_from t_to t_value t_fault t_faultAt) sz)) 0 0 (va_A (wd_X6_told cI cZ cB cG q_t q_t_keys q_t_now q_t_aside q_t_old q_t_saved q_t_input q_t_output q_t_live q_t_weight q_t_measure q_t_planned q_t_came q_t_rank t_thrown t_oldMany t_savedSet t_inputMany t_outputMany t_errorCode t_errorPosition t_top t_ahead t_round t_loudest t_textEnd t_kind t_from t_to t_value t_fault t_faultAt) sz) := by
  refine g_ofWi (cc := cX6_told) (maxL := 2) (by decide +kernel) (Nat.le_of_ble_eq_true rfl) rfl ?_
  intro p e s m args below meth c A Q hx hb hml hown hts hA hK hE H hP hD hS ls hl hret
  have hinX6 := in_X6_told_X6
  have k65 := hts _ k_X6_told_65
  have hl : lv_has ls 2 [(0, .ref q_t), (1, .int a1)] := hl
  unfold wp_X6_told at hf
  refine lv_aload_n hx hb dX6_told_0 rfl (lv_at hl 0 rfl) ?_
  refine lv_iconst (v := (0 : Int32)) hx hb dX6_told_1 (by decide) ?_
  refine va_put (D := D) (ci := 6) (v := .int (0 : Int32)) (ty := .int) (C := RX6) (T := TX6) (N := 31) hx hb hts hinX6 tyX6 tyX6_ok nmX6 hown hK hP hD hS 0 rfl rfl 1 (by decide) k65 (fun _ h9 => h9) rfl (by decide +kernel) rfl rfl (Nat.le_of_ble_eq_true rfl) dX6_told_2 (fun H locs hP hD hS => ?_)
  have hP : va_P D vwCl (wd_X6_told cI cZ cB cG q_t q_t_keys q_t_now q_t_aside q_t_old q_t_saved q_t_input q_t_output q_t_live q_t_weight q_t_measure q_t_planned q_t_came q_t_rank (0 : Int32) t_oldMany t_savedSet t_inputMany t_outputMany t_errorCode t_errorPosition t_top t_ahead t_round t_loudest t_textEnd t_kind t_from t_to t_value t_fault t_faultAt) H := hP
  have hD : va_D A (wd_X6_told cI cZ cB cG q_t q_t_keys q_t_now q_t_aside q_t_old q_t_saved q_t_input q_t_output q_t_live q_t_weight q_t_measure q_t_planned q_t_came q_t_rank (0 : Int32) t_oldMany t_savedSet t_inputMany t_outputMany t_errorCode t_errorPosition t_top t_ahead t_round t_loudest t_textEnd t_kind t_from t_to t_value t_fault t_faultAt) := hD
  refine lv_iload_n hx hb dX6_told_5 rfl (lv_at hl 1 rfl) ?_
  exact hret a1 (0 : Int32) hf hP hD hS dX6_told_6
def wp_X6_in (a0 : Int32) (a1 : Int32) (a2 : Int32) (post : Int32 → Prop) : Prop := ((a0 < a1 → (post (0 : Int32))) ∧ (¬ (a0 < a1) → ((a2 < a0 → (post (0 : Int32))) ∧ (¬ (a2 < a0) → (post (1 : Int32))))))
abbrev rm_X6_in : Room := { frames := 1, cells := 0, slots := 0, locals := 80 }
set_option maxHeartbeats 40000000 in
set_option maxRecDepth 100000 in
theorem c_X6_in (l : Launch) (D : va_G) (X : gX) (cI cZ cB cG : ClassId) (sz : Nat) (a0 : Int32) (a1 : Int32) (a2 : Int32) (post : Int32 → Prop) (hf : wp_X6_in a0 a1 a2 post) : Met l yX6_in wsX6_in rm_X6_in (gP D X (gT cI cZ cB cG) sz [.int a0, .int a1, .int a2] ([] : va_W)) (va_Qi (fun (r : Int32) (u : Unit) => narrow .boolean (.int r) = .int r ∧ post r) (fun u t => gB D (gT cI cZ cB cG) (va_A ([] : va_W) sz) ([] : va_W) t) (va_A ([] : va_W) sz)) 0 0 (va_A ([] : va_W) sz) := by
  refine g_ofWz (cc := cX6_in) (maxL := 3) (by decide +kernel) (Nat.le_of_ble_eq_true rfl) rfl ?_
  intro p e s m args below meth c A Q hx hb hml hown hts hA hK hE H hP hD hS ls hl hret
  have hl : lv_has ls 3 [(0, .int a0), (1, .int a1), (2, .int a2)] := hl
  unfold wp_X6_in at hf
  refine lv_iload_n hx hb dX6_in_0 rfl (lv_at hl 0 rfl) ?_
  refine lv_iload_n hx hb dX6_in_1 rfl (lv_at hl 1 rfl) ?_
  refine lv_icmp_lt (tgt := 14) hx hb dX6_in_2 (by decide) (fun hc => ?_) (fun hc => ?_)
  · have hf := hf.1 hc
    refine lv_iconst (v := (0 : Int32)) hx hb dX6_in_14 (by decide) ?_
    exact hret (0 : Int32) () (by decide) hf hP hD hS dX6_in_15
  · have hf := hf.2 hc
    refine lv_iload_n hx hb dX6_in_5 rfl (lv_at hl 0 rfl) ?_
    refine lv_iload_n hx hb dX6_in_6 rfl (lv_at hl 2 rfl) ?_
    refine lv_icmp_gt (tgt := 14) hx hb dX6_in_7 (by decide) (fun hc => ?_) (fun hc => ?_)
    · have hf := hf.1 hc
      refine lv_iconst (v := (0 : Int32)) hx hb dX6_in_14 (by decide) ?_
      exact hret (0 : Int32) () (by decide) hf hP hD hS dX6_in_15
    · have hf := hf.2 hc
      refine lv_iconst (v := (1 : Int32)) hx hb dX6_in_10 (by decide) ?_
      refine lv_goto (tgt := 15) hx hb dX6_in_11 (by decide) ?_
      exact hret (1 : Int32) () (by decide) hf hP hD hS dX6_in_15
abbrev wd_X6_isPlace (cI cZ cB cG : ClassId) (q_t : Nat) (q_t_now : Nat) (q_t_keys : Nat) (q_t_aside : Nat) (q_t_old : Nat) (q_t_saved : Nat) (q_t_input : Nat) (q_t_output : Nat) (q_t_live : Nat) (q_t_weight : Nat) (q_t_measure : Nat) (q_t_planned : Nat) (q_t_came : Nat) (q_t_rank : Nat) (t_thrown : Int32) (t_oldMany : Int32) (t_savedSet : Int32) (t_inputMany : Int32) (t_outputMany : Int32) (t_errorCode : Int32) (t_errorPosition : Int32) (t_top : Int32) (t_ahead : Int32) (t_round : Int32) (t_loudest : Int32) (t_textEnd : Int32) (t_kind : Int32) (t_from : Int32) (t_to : Int32) (t_value : Int32) (t_fault : Int32) (t_faultAt : Int32) (t_now : (Nat → Int32)) : va_W := [(q_t, .inr (6, [.ref q_t_keys, .int t_thrown, .ref q_t_now, .ref q_t_aside, .ref q_t_old, .int t_oldMany, .ref q_t_saved, .int t_savedSet, .ref q_t_input, .int t_inputMany, .ref q_t_output, .int t_outputMany, .int t_errorCode, .int t_errorPosition, .ref q_t_live, .ref q_t_weight, .ref q_t_measure, .int t_top, .ref q_t_planned, .ref q_t_came, .ref q_t_rank, .int t_ahead, .int t_round, .int t_loudest, .int t_textEnd, .int t_kind, .int t_from, .int t_to, .int t_value, .int t_fault, .int t_faultAt])), (q_t_now, .inl (cI, 176, .inl t_now))]
def wp_X6_isPlace (a1 : Int32) (t_now : (Nat → Int32)) (post : Int32 → Prop) : Prop := (wp_X6_in a1 (0 : Int32) (((t_now 0) - (1 : Int32))) (fun r_2 => (post r_2)))
abbrev rm_X6_isPlace : Room := { frames := 2, cells := 0, slots := 0, locals := 102 }
theorem in_X6_isPlace_X6 : ∀ w ∈ u_ws RX6 TX6 31, w ∈ wsX6_isPlace := by decide +kernel
theorem k_X6_isPlace_13 : Cond.fieldLink RX6 13 "ParityGameModel" "now" "[I" ∈ wsX6_isPlace := by decide +kernel
set_option maxHeartbeats 40000000 in
set_option maxRecDepth 100000 in
theorem c_X6_isPlace (l : Launch) (D : va_G) (X : gX) (cI cZ cB cG : ClassId) (sz : Nat) (q_t : Nat) (q_t_now : Nat) (q_t_keys : Nat) (q_t_aside : Nat) (q_t_old : Nat) (q_t_saved : Nat) (q_t_input : Nat) (q_t_output : Nat) (q_t_live : Nat) (q_t_weight : Nat) (q_t_measure : Nat) (q_t_planned : Nat) (q_t_came : Nat) (q_t_rank : Nat) (a1 : Int32) (t_thrown : Int32) (t_oldMany : Int32) (t_savedSet : Int32) (t_inputMany : Int32) (t_outputMany : Int32) (t_errorCode : Int32) (t_errorPosition : Int32) (t_top : Int32) (t_ahead : Int32) (t_round : Int32) (t_loudest : Int32) (t_textEnd : Int32) (t_kind : Int32) (t_from : Int32) (t_to : Int32) (t_value : Int32) (t_fault : Int32) (t_faultAt : Int32) (t_now : (Nat → Int32)) (post : Int32 → Prop) (hf : wp_X6_isPlace a1 t_now post) : Met l yX6_isPlace wsX6_isPlace rm_X6_isPlace (gP D X (gT cI cZ cB cG) sz [.ref q_t, .int a1] (wd_X6_isPlace cI cZ cB cG q_t q_t_now q_t_keys q_t_aside q_t_old q_t_saved q_t_input q_t_output q_t_live q_t_weight q_t_measure q_t_planned q_t_came q_t_rank t_thrown t_oldMany t_savedSet t_inputMany t_outputMany t_errorCode t_errorPosition t_top t_ahead t_round t_loudest t_textEnd t_kind t_from t_to t_value t_fault t_faultAt t_now)) (va_Qi (fun (r : Int32) (u : Unit) => narrow .boolean (.int r) = .int r ∧ post r) (fun u t => gB D (gT cI cZ cB cG) (va_A (wd_X6_isPlace cI cZ cB cG q_t q_t_now q_t_keys q_t_aside q_t_old q_t_saved q_t_input q_t_output q_t_live q_t_weight q_t_measure q_t_planned q_t_came q_t_rank t_thrown t_oldMany t_savedSet t_inputMany t_outputMany t_errorCode t_errorPosition t_top t_ahead t_round t_loudest t_textEnd t_kind t_from t_to t_value t_fault t_faultAt t_now) sz) (wd_X6_isPlace cI cZ cB cG q_t q_t_now q_t_keys q_t_aside q_t_old q_t_saved q_t_input q_t_output q_t_live q_t_weight q_t_measure q_t_planned q_t_came q_t_rank t_thrown t_oldMany t_savedSet t_inputMany t_outputMany t_errorCode t_errorPosition t_top t_ahead t_round t_loudest t_textEnd t_kind t_from t_to t_value t_fault t_faultAt t_now) t) (va_A (wd_X6_isPlace cI cZ cB cG q_t q_t_now q_t_keys q_t_aside q_t_old q_t_saved q_t_input q_t_output q_t_live q_t_weight q_t_measure q_t_planned q_t_came q_t_rank t_thrown t_oldMany t_savedSet t_inputMany t_outputMany t_errorCode t_errorPosition t_top t_ahead t_round t_loudest t_textEnd t_kind t_from t_to t_value t_fault t_faultAt t_now) sz)) 0 0 (va_A (wd_X6_isPlace cI cZ cB cG q_t q_t_now q_t_keys q_t_aside q_t_old q_t_saved q_t_input q_t_output q_t_live q_t_weight q_t_measure q_t_planned q_t_came q_t_rank t_thrown t_oldMany t_savedSet t_inputMany t_outputMany t_errorCode t_errorPosition t_top t_ahead t_round t_loudest t_textEnd t_kind t_from t_to t_value t_fault t_faultAt t_now) sz) := by
  refine g_ofWz (cc := cX6_isPlace) (maxL := 2) (by decide +kernel) (Nat.le_of_ble_eq_true rfl) rfl ?_
  intro p e s m args below meth c A Q hx hb hml hown hts hA hK hE H hP hD hS ls hl hret
  have hinX6 := in_X6_isPlace_X6
  have k13 := hts _ k_X6_isPlace_13
  have hl : lv_has ls 2 [(0, .ref q_t), (1, .int a1)] := hl
  unfold wp_X6_isPlace at hf
  refine lv_iload_n hx hb dX6_isPlace_0 rfl (lv_at hl 1 rfl) ?_
  refine lv_iconst (v := (0 : Int32)) hx hb dX6_isPlace_1 (by decide) ?_
  refine lv_aload_n hx hb dX6_isPlace_2 rfl (lv_at hl 0 rfl) ?_
  refine va_get (D := D) (ci := 6) (v := .ref q_t_now) (C := RX6) (T := TX6) (N := 31) hx hb hts hinX6 hown hK hP 0 rfl rfl 2 (by decide) k13 (fun _ h9 => h9) rfl dX6_isPlace_3 ?_
  refine lv_iconst (v := (0 : Int32)) hx hb dX6_isPlace_6 (by decide) ?_
  refine va_iald hx hb hK hP 1 0 rfl rfl (n := 176) (by unfold vp_in; decide) dX6_isPlace_7 ?_
  refine lv_iconst (v := (1 : Int32)) hx hb dX6_isPlace_8 (by decide) ?_
  refine lv_isub hx hb dX6_isPlace_9 ?_
  have hPc := hP.sub (ws' := ([] : va_W)) [] rfl
  have hDc := hD.sub (ws' := ([] : va_W)) [] (by decide +kernel) rfl
  have hFc := va_free (wc := ([] : va_W)) hD hS hA [] rfl
  refine va_calli (va_runS (As := [.int a1, .int (0 : Int32), .int (((t_now 0) - (1 : Int32)))]) (rest := []) ⟨hx, hb, hml, hown, hts⟩ (c_X6_in l D X cI cZ cB cG H.size a1 (0 : Int32) (((t_now 0) - (1 : Int32))) _ hf) (va_cwS 3 hts gX6_isPlace_X6_in rfl rfl rfl (by decide +kernel) ⟨Nat.le_of_ble_eq_true rfl, Nat.le_of_ble_eq_true rfl⟩) ⟨g_blind, fun U hU hW => g_side hU hW hPc hK hDc hE hS hFc⟩ rfl rfl hl.1 rfl (lv_room (Nat.le_of_ble_eq_true rfl)) dX6_isPlace_10 ⟨Nat.zero_le _, Nat.zero_le _⟩) hS (fun q _ h => hFc q h) hFc (fun r_2 u t H1 locs ht hvm hw hB hz1 hk1 hS => ?_)
  obtain ⟨hP1, hK1, hD1⟩ := hB
  rw [ht] at hP1
  obtain ⟨hP, hD⟩ := g_back (wc := ([] : va_W)) (w1 := ([] : va_W)) hP hD [] rfl rfl hk1 hP1
  have hP : va_P D vwCl (wd_X6_isPlace cI cZ cB cG q_t q_t_now q_t_keys q_t_aside q_t_old q_t_saved q_t_input q_t_output q_t_live q_t_weight q_t_measure q_t_planned q_t_came q_t_rank t_thrown t_oldMany t_savedSet t_inputMany t_outputMany t_errorCode t_errorPosition t_top t_ahead t_round t_loudest t_textEnd t_kind t_from t_to t_value t_fault t_faultAt t_now) H1 := hP
  have hD : va_D A (wd_X6_isPlace cI cZ cB cG q_t q_t_now q_t_keys q_t_aside q_t_old q_t_saved q_t_input q_t_output q_t_live q_t_weight q_t_measure q_t_planned q_t_came q_t_rank t_thrown t_oldMany t_savedSet t_inputMany t_outputMany t_errorCode t_errorPosition t_top t_ahead t_round t_loudest t_textEnd t_kind t_from t_to t_value t_fault t_faultAt t_now) := hD
  obtain ⟨hn_r_2, hw⟩ := hw
  have hf := hw
  generalize H1 = H at hP hS ⊢
  exact hret r_2 () hn_r_2 hf hP hD hS dX6_isPlace_13
abbrev wd_X6_isMove (cI cZ cB cG : ClassId) (q_t : Nat) (q_t_now : Nat) (q_t_keys : Nat) (q_t_aside : Nat) (q_t_old : Nat) (q_t_saved : Nat) (q_t_input : Nat) (q_t_output : Nat) (q_t_live : Nat) (q_t_weight : Nat) (q_t_measure : Nat) (q_t_planned : Nat) (q_t_came : Nat) (q_t_rank : Nat) (t_thrown : Int32) (t_oldMany : Int32) (t_savedSet : Int32) (t_inputMany : Int32) (t_outputMany : Int32) (t_errorCode : Int32) (t_errorPosition : Int32) (t_top : Int32) (t_ahead : Int32) (t_round : Int32) (t_loudest : Int32) (t_textEnd : Int32) (t_kind : Int32) (t_from : Int32) (t_to : Int32) (t_value : Int32) (t_fault : Int32) (t_faultAt : Int32) (t_now : (Nat → Int32)) : va_W := [(q_t, .inr (6, [.ref q_t_keys, .int t_thrown, .ref q_t_now, .ref q_t_aside, .ref q_t_old, .int t_oldMany, .ref q_t_saved, .int t_savedSet, .ref q_t_input, .int t_inputMany, .ref q_t_output, .int t_outputMany, .int t_errorCode, .int t_errorPosition, .ref q_t_live, .ref q_t_weight, .ref q_t_measure, .int t_top, .ref q_t_planned, .ref q_t_came, .ref q_t_rank, .int t_ahead, .int t_round, .int t_loudest, .int t_textEnd, .int t_kind, .int t_from, .int t_to, .int t_value, .int t_fault, .int t_faultAt])), (q_t_now, .inl (cI, 176, .inl t_now))]
def wp_X6_isMove (a1 : Int32) (t_now : (Nat → Int32)) (post : Int32 → Prop) : Prop := (wp_X6_in a1 (0 : Int32) (((t_now 1) - (1 : Int32))) (fun r_2 => (post r_2)))
abbrev rm_X6_isMove : Room := { frames := 2, cells := 0, slots := 0, locals := 102 }
theorem in_X6_isMove_X6 : ∀ w ∈ u_ws RX6 TX6 31, w ∈ wsX6_isMove := by decide +kernel
theorem k_X6_isMove_13 : Cond.fieldLink RX6 13 "ParityGameModel" "now" "[I" ∈ wsX6_isMove := by decide +kernel
set_option maxHeartbeats 40000000 in
set_option maxRecDepth 100000 in
theorem c_X6_isMove (l : Launch) (D : va_G) (X : gX) (cI cZ cB cG : ClassId) (sz : Nat) (q_t : Nat) (q_t_now : Nat) (q_t_keys : Nat) (q_t_aside : Nat) (q_t_old : Nat) (q_t_saved : Nat) (q_t_input : Nat) (q_t_output : Nat) (q_t_live : Nat) (q_t_weight : Nat) (q_t_measure : Nat) (q_t_planned : Nat) (q_t_came : Nat) (q_t_rank : Nat) (a1 : Int32) (t_thrown : Int32) (t_oldMany : Int32) (t_savedSet : Int32) (t_inputMany : Int32) (t_outputMany : Int32) (t_errorCode : Int32) (t_errorPosition : Int32) (t_top : Int32) (t_ahead : Int32) (t_round : Int32) (t_loudest : Int32) (t_textEnd : Int32) (t_kind : Int32) (t_from : Int32) (t_to : Int32) (t_value : Int32) (t_fault : Int32) (t_faultAt : Int32) (t_now : (Nat → Int32)) (post : Int32 → Prop) (hf : wp_X6_isMove a1 t_now post) : Met l yX6_isMove wsX6_isMove rm_X6_isMove (gP D X (gT cI cZ cB cG) sz [.ref q_t, .int a1] (wd_X6_isMove cI cZ cB cG q_t q_t_now q_t_keys q_t_aside q_t_old q_t_saved q_t_input q_t_output q_t_live q_t_weight q_t_measure q_t_planned q_t_came q_t_rank t_thrown t_oldMany t_savedSet t_inputMany t_outputMany t_errorCode t_errorPosition t_top t_ahead t_round t_loudest t_textEnd t_kind t_from t_to t_value t_fault t_faultAt t_now)) (va_Qi (fun (r : Int32) (u : Unit) => narrow .boolean (.int r) = .int r ∧ post r) (fun u t => gB D (gT cI cZ cB cG) (va_A (wd_X6_isMove cI cZ cB cG q_t q_t_now q_t_keys q_t_aside q_t_old q_t_saved q_t_input q_t_output q_t_live q_t_weight q_t_measure q_t_planned q_t_came q_t_rank t_thrown t_oldMany t_savedSet t_inputMany t_outputMany t_errorCode t_errorPosition t_top t_ahead t_round t_loudest t_textEnd t_kind t_from t_to t_value t_fault t_faultAt t_now) sz) (wd_X6_isMove cI cZ cB cG q_t q_t_now q_t_keys q_t_aside q_t_old q_t_saved q_t_input q_t_output q_t_live q_t_weight q_t_measure q_t_planned q_t_came q_t_rank t_thrown t_oldMany t_savedSet t_inputMany t_outputMany t_errorCode t_errorPosition t_top t_ahead t_round t_loudest t_textEnd t_kind t_from t_to t_value t_fault t_faultAt t_now) t) (va_A (wd_X6_isMove cI cZ cB cG q_t q_t_now q_t_keys q_t_aside q_t_old q_t_saved q_t_input q_t_output q_t_live q_t_weight q_t_measure q_t_planned q_t_came q_t_rank t_thrown t_oldMany t_savedSet t_inputMany t_outputMany t_errorCode t_errorPosition t_top t_ahead t_round t_loudest t_textEnd t_kind t_from t_to t_value t_fault t_faultAt t_now) sz)) 0 0 (va_A (wd_X6_isMove cI cZ cB cG q_t q_t_now q_t_keys q_t_aside q_t_old q_t_saved q_t_input q_t_output q_t_live q_t_weight q_t_measure q_t_planned q_t_came q_t_rank t_thrown t_oldMany t_savedSet t_inputMany t_outputMany t_errorCode t_errorPosition t_top t_ahead t_round t_loudest t_textEnd t_kind t_from t_to t_value t_fault t_faultAt t_now) sz) := by
  refine g_ofWz (cc := cX6_isMove) (maxL := 2) (by decide +kernel) (Nat.le_of_ble_eq_true rfl) rfl ?_
  intro p e s m args below meth c A Q hx hb hml hown hts hA hK hE H hP hD hS ls hl hret
  have hinX6 := in_X6_isMove_X6
  have k13 := hts _ k_X6_isMove_13
  have hl : lv_has ls 2 [(0, .ref q_t), (1, .int a1)] := hl
  unfold wp_X6_isMove at hf
  refine lv_iload_n hx hb dX6_isMove_0 rfl (lv_at hl 1 rfl) ?_
  refine lv_iconst (v := (0 : Int32)) hx hb dX6_isMove_1 (by decide) ?_
  refine lv_aload_n hx hb dX6_isMove_2 rfl (lv_at hl 0 rfl) ?_
  refine va_get (D := D) (ci := 6) (v := .ref q_t_now) (C := RX6) (T := TX6) (N := 31) hx hb hts hinX6 hown hK hP 0 rfl rfl 2 (by decide) k13 (fun _ h9 => h9) rfl dX6_isMove_3 ?_
  refine lv_iconst (v := (1 : Int32)) hx hb dX6_isMove_6 (by decide) ?_
  refine va_iald hx hb hK hP 1 0 rfl rfl (n := 176) (by unfold vp_in; decide) dX6_isMove_7 ?_
  refine lv_iconst (v := (1 : Int32)) hx hb dX6_isMove_8 (by decide) ?_
  refine lv_isub hx hb dX6_isMove_9 ?_
  have hPc := hP.sub (ws' := ([] : va_W)) [] rfl
  have hDc := hD.sub (ws' := ([] : va_W)) [] (by decide +kernel) rfl
  have hFc := va_free (wc := ([] : va_W)) hD hS hA [] rfl
  refine va_calli (va_runS (As := [.int a1, .int (0 : Int32), .int (((t_now 1) - (1 : Int32)))]) (rest := []) ⟨hx, hb, hml, hown, hts⟩ (c_X6_in l D X cI cZ cB cG H.size a1 (0 : Int32) (((t_now 1) - (1 : Int32))) _ hf) (va_cwS 3 hts gX6_isMove_X6_in rfl rfl rfl (by decide +kernel) ⟨Nat.le_of_ble_eq_true rfl, Nat.le_of_ble_eq_true rfl⟩) ⟨g_blind, fun U hU hW => g_side hU hW hPc hK hDc hE hS hFc⟩ rfl rfl hl.1 rfl (lv_room (Nat.le_of_ble_eq_true rfl)) dX6_isMove_10 ⟨Nat.zero_le _, Nat.zero_le _⟩) hS (fun q _ h => hFc q h) hFc (fun r_2 u t H1 locs ht hvm hw hB hz1 hk1 hS => ?_)
  obtain ⟨hP1, hK1, hD1⟩ := hB
  rw [ht] at hP1
  obtain ⟨hP, hD⟩ := g_back (wc := ([] : va_W)) (w1 := ([] : va_W)) hP hD [] rfl rfl hk1 hP1
  have hP : va_P D vwCl (wd_X6_isMove cI cZ cB cG q_t q_t_now q_t_keys q_t_aside q_t_old q_t_saved q_t_input q_t_output q_t_live q_t_weight q_t_measure q_t_planned q_t_came q_t_rank t_thrown t_oldMany t_savedSet t_inputMany t_outputMany t_errorCode t_errorPosition t_top t_ahead t_round t_loudest t_textEnd t_kind t_from t_to t_value t_fault t_faultAt t_now) H1 := hP
  have hD : va_D A (wd_X6_isMove cI cZ cB cG q_t q_t_now q_t_keys q_t_aside q_t_old q_t_saved q_t_input q_t_output q_t_live q_t_weight q_t_measure q_t_planned q_t_came q_t_rank t_thrown t_oldMany t_savedSet t_inputMany t_outputMany t_errorCode t_errorPosition t_top t_ahead t_round t_loudest t_textEnd t_kind t_from t_to t_value t_fault t_faultAt t_now) := hD
  obtain ⟨hn_r_2, hw⟩ := hw
  have hf := hw
  generalize H1 = H at hP hS ⊢
  exact hret r_2 () hn_r_2 hf hP hD hS dX6_isMove_13
abbrev wd_X6_isSet (cI cZ cB cG : ClassId) (q_t : Nat) (q_t_now : Nat) (q_t_keys : Nat) (q_t_aside : Nat) (q_t_old : Nat) (q_t_saved : Nat) (q_t_input : Nat) (q_t_output : Nat) (q_t_live : Nat) (q_t_weight : Nat) (q_t_measure : Nat) (q_t_planned : Nat) (q_t_came : Nat) (q_t_rank : Nat) (t_thrown : Int32) (t_oldMany : Int32) (t_savedSet : Int32) (t_inputMany : Int32) (t_outputMany : Int32) (t_errorCode : Int32) (t_errorPosition : Int32) (t_top : Int32) (t_ahead : Int32) (t_round : Int32) (t_loudest : Int32) (t_textEnd : Int32) (t_kind : Int32) (t_from : Int32) (t_to : Int32) (t_value : Int32) (t_fault : Int32) (t_faultAt : Int32) (t_now : (Nat → Int32)) : va_W := [(q_t, .inr (6, [.ref q_t_keys, .int t_thrown, .ref q_t_now, .ref q_t_aside, .ref q_t_old, .int t_oldMany, .ref q_t_saved, .int t_savedSet, .ref q_t_input, .int t_inputMany, .ref q_t_output, .int t_outputMany, .int t_errorCode, .int t_errorPosition, .ref q_t_live, .ref q_t_weight, .ref q_t_measure, .int t_top, .ref q_t_planned, .ref q_t_came, .ref q_t_rank, .int t_ahead, .int t_round, .int t_loudest, .int t_textEnd, .int t_kind, .int t_from, .int t_to, .int t_value, .int t_fault, .int t_faultAt])), (q_t_now, .inl (cI, 176, .inl t_now))]
def wp_X6_isSet (a1 : Int32) (t_now : (Nat → Int32)) (post : Int32 → Prop) : Prop := ((a1 < (0 : Int32) → (post (0 : Int32))) ∧ (¬ (a1 < (0 : Int32)) → ((¬ (a1 >>> ((t_now 0) &&& 31)) = (0 : Int32) → (post (0 : Int32))) ∧ ((a1 >>> ((t_now 0) &&& 31)) = (0 : Int32) → (post (1 : Int32))))))
abbrev rm_X6_isSet : Room := { frames := 1, cells := 0, slots := 0, locals := 80 }
theorem in_X6_isSet_X6 : ∀ w ∈ u_ws RX6 TX6 31, w ∈ wsX6_isSet := by decide +kernel
theorem k_X6_isSet_13 : Cond.fieldLink RX6 13 "ParityGameModel" "now" "[I" ∈ wsX6_isSet := by decide +kernel
set_option maxHeartbeats 40000000 in
set_option maxRecDepth 100000 in
theorem c_X6_isSet (l : Launch) (D : va_G) (X : gX) (cI cZ cB cG : ClassId) (sz : Nat) (q_t : Nat) (q_t_now : Nat) (q_t_keys : Nat) (q_t_aside : Nat) (q_t_old : Nat) (q_t_saved : Nat) (q_t_input : Nat) (q_t_output : Nat) (q_t_live : Nat) (q_t_weight : Nat) (q_t_measure : Nat) (q_t_planned : Nat) (q_t_came : Nat) (q_t_rank : Nat) (a1 : Int32) (t_thrown : Int32) (t_oldMany : Int32) (t_savedSet : Int32) (t_inputMany : Int32) (t_outputMany : Int32) (t_errorCode : Int32) (t_errorPosition : Int32) (t_top : Int32) (t_ahead : Int32) (t_round : Int32) (t_loudest : Int32) (t_textEnd : Int32) (t_kind : Int32) (t_from : Int32) (t_to : Int32) (t_value : Int32) (t_fault : Int32) (t_faultAt : Int32) (t_now : (Nat → Int32)) (post : Int32 → Prop) (hf : wp_X6_isSet a1 t_now post) : Met l yX6_isSet wsX6_isSet rm_X6_isSet (gP D X (gT cI cZ cB cG) sz [.ref q_t, .int a1] (wd_X6_isSet cI cZ cB cG q_t q_t_now q_t_keys q_t_aside q_t_old q_t_saved q_t_input q_t_output q_t_live q_t_weight q_t_measure q_t_planned q_t_came q_t_rank t_thrown t_oldMany t_savedSet t_inputMany t_outputMany t_errorCode t_errorPosition t_top t_ahead t_round t_loudest t_textEnd t_kind t_from t_to t_value t_fault t_faultAt t_now)) (va_Qi (fun (r : Int32) (u : Unit) => narrow .boolean (.int r) = .int r ∧ post r) (fun u t => gB D (gT cI cZ cB cG) (va_A (wd_X6_isSet cI cZ cB cG q_t q_t_now q_t_keys q_t_aside q_t_old q_t_saved q_t_input q_t_output q_t_live q_t_weight q_t_measure q_t_planned q_t_came q_t_rank t_thrown t_oldMany t_savedSet t_inputMany t_outputMany t_errorCode t_errorPosition t_top t_ahead t_round t_loudest t_textEnd t_kind t_from t_to t_value t_fault t_faultAt t_now) sz) (wd_X6_isSet cI cZ cB cG q_t q_t_now q_t_keys q_t_aside q_t_old q_t_saved q_t_input q_t_output q_t_live q_t_weight q_t_measure q_t_planned q_t_came q_t_rank t_thrown t_oldMany t_savedSet t_inputMany t_outputMany t_errorCode t_errorPosition t_top t_ahead t_round t_loudest t_textEnd t_kind t_from t_to t_value t_fault t_faultAt t_now) t) (va_A (wd_X6_isSet cI cZ cB cG q_t q_t_now q_t_keys q_t_aside q_t_old q_t_saved q_t_input q_t_output q_t_live q_t_weight q_t_measure q_t_planned q_t_came q_t_rank t_thrown t_oldMany t_savedSet t_inputMany t_outputMany t_errorCode t_errorPosition t_top t_ahead t_round t_loudest t_textEnd t_kind t_from t_to t_value t_fault t_faultAt t_now) sz)) 0 0 (va_A (wd_X6_isSet cI cZ cB cG q_t q_t_now q_t_keys q_t_aside q_t_old q_t_saved q_t_input q_t_output q_t_live q_t_weight q_t_measure q_t_planned q_t_came q_t_rank t_thrown t_oldMany t_savedSet t_inputMany t_outputMany t_errorCode t_errorPosition t_top t_ahead t_round t_loudest t_textEnd t_kind t_from t_to t_value t_fault t_faultAt t_now) sz) := by
  refine g_ofWz (cc := cX6_isSet) (maxL := 2) (by decide +kernel) (Nat.le_of_ble_eq_true rfl) rfl ?_
  intro p e s m args below meth c A Q hx hb hml hown hts hA hK hE H hP hD hS ls hl hret
  have hinX6 := in_X6_isSet_X6
  have k13 := hts _ k_X6_isSet_13
  have hl : lv_has ls 2 [(0, .ref q_t), (1, .int a1)] := hl
  unfold wp_X6_isSet at hf
  refine lv_iload_n hx hb dX6_isSet_0 rfl (lv_at hl 1 rfl) ?_
  refine lv_if_lt (tgt := 19) hx hb dX6_isSet_1 (by decide) (fun hc => ?_) (fun hc => ?_)
  · have hf := hf.1 hc
    refine lv_iconst (v := (0 : Int32)) hx hb dX6_isSet_19 (by decide) ?_
    exact hret (0 : Int32) () (by decide) hf hP hD hS dX6_isSet_20
  · have hf := hf.2 hc
    refine lv_iload_n hx hb dX6_isSet_4 rfl (lv_at hl 1 rfl) ?_
    refine lv_aload_n hx hb dX6_isSet_5 rfl (lv_at hl 0 rfl) ?_
    refine va_get (D := D) (ci := 6) (v := .ref q_t_now) (C := RX6) (T := TX6) (N := 31) hx hb hts hinX6 hown hK hP 0 rfl rfl 2 (by decide) k13 (fun _ h9 => h9) rfl dX6_isSet_6 ?_
    refine lv_iconst (v := (0 : Int32)) hx hb dX6_isSet_9 (by decide) ?_
    refine va_iald hx hb hK hP 1 0 rfl rfl (n := 176) (by unfold vp_in; decide) dX6_isSet_10 ?_
    refine lv_ishr hx hb dX6_isSet_11 ?_
    refine lv_if_ne (tgt := 19) hx hb dX6_isSet_12 (by decide) (fun hc => ?_) (fun hc => ?_)
    · have hf := hf.1 hc
      refine lv_iconst (v := (0 : Int32)) hx hb dX6_isSet_19 (by decide) ?_
      exact hret (0 : Int32) () (by decide) hf hP hD hS dX6_isSet_20
    · have hf := hf.2 hc
      refine lv_iconst (v := (1 : Int32)) hx hb dX6_isSet_15 (by decide) ?_
      refine lv_goto (tgt := 20) hx hb dX6_isSet_16 (by decide) ?_
      exact hret (1 : Int32) () (by decide) hf hP hD hS dX6_isSet_20
def wp_X6_has (a0 : Int32) (a1 : Int32) (post : Int32 → Prop) : Prop := ((¬ ((a0 >>> (a1 &&& 31)) &&& (1 : Int32)) = (1 : Int32) → (post (0 : Int32))) ∧ (((a0 >>> (a1 &&& 31)) &&& (1 : Int32)) = (1 : Int32) → (post (1 : Int32))))
abbrev rm_X6_has : Room := { frames := 1, cells := 0, slots := 0, locals := 80 }
set_option maxHeartbeats 40000000 in
set_option maxRecDepth 100000 in
theorem c_X6_has (l : Launch) (D : va_G) (X : gX) (cI cZ cB cG : ClassId) (sz : Nat) (a0 : Int32) (a1 : Int32) (post : Int32 → Prop) (hf : wp_X6_has a0 a1 post) : Met l yX6_has wsX6_has rm_X6_has (gP D X (gT cI cZ cB cG) sz [.int a0, .int a1] ([] : va_W)) (va_Qi (fun (r : Int32) (u : Unit) => narrow .boolean (.int r) = .int r ∧ post r) (fun u t => gB D (gT cI cZ cB cG) (va_A ([] : va_W) sz) ([] : va_W) t) (va_A ([] : va_W) sz)) 0 0 (va_A ([] : va_W) sz) := by
  refine g_ofWz (cc := cX6_has) (maxL := 2) (by decide +kernel) (Nat.le_of_ble_eq_true rfl) rfl ?_
  intro p e s m args below meth c A Q hx hb hml hown hts hA hK hE H hP hD hS ls hl hret
  have hl : lv_has ls 2 [(0, .int a0), (1, .int a1)] := hl
  unfold wp_X6_has at hf
  refine lv_iload_n hx hb dX6_has_0 rfl (lv_at hl 0 rfl) ?_
  refine lv_iload_n hx hb dX6_has_1 rfl (lv_at hl 1 rfl) ?_
  refine lv_ishr hx hb dX6_has_2 ?_
  refine lv_iconst (v := (1 : Int32)) hx hb dX6_has_3 (by decide) ?_
  refine lv_iand hx hb dX6_has_4 ?_
  refine lv_iconst (v := (1 : Int32)) hx hb dX6_has_5 (by decide) ?_
  refine lv_icmp_ne (tgt := 13) hx hb dX6_has_6 (by decide) (fun hc => ?_) (fun hc => ?_)
  · have hf := hf.1 hc
    refine lv_iconst (v := (0 : Int32)) hx hb dX6_has_13 (by decide) ?_
    exact hret (0 : Int32) () (by decide) hf hP hD hS dX6_has_14
  · have hf := hf.2 hc
    refine lv_iconst (v := (1 : Int32)) hx hb dX6_has_9 (by decide) ?_
    refine lv_goto (tgt := 14) hx hb dX6_has_10 (by decide) ?_
    exact hret (1 : Int32) () (by decide) hf hP hD hS dX6_has_14
abbrev wd_X6_joins (cI cZ cB cG : ClassId) (q_t : Nat) (q_t_now : Nat) (q_t_keys : Nat) (q_t_aside : Nat) (q_t_old : Nat) (q_t_saved : Nat) (q_t_input : Nat) (q_t_output : Nat) (q_t_live : Nat) (q_t_weight : Nat) (q_t_measure : Nat) (q_t_planned : Nat) (q_t_came : Nat) (q_t_rank : Nat) (t_thrown : Int32) (t_oldMany : Int32) (t_savedSet : Int32) (t_inputMany : Int32) (t_outputMany : Int32) (t_errorCode : Int32) (t_errorPosition : Int32) (t_top : Int32) (t_ahead : Int32) (t_round : Int32) (t_loudest : Int32) (t_textEnd : Int32) (t_kind : Int32) (t_from : Int32) (t_to : Int32) (t_value : Int32) (t_fault : Int32) (t_faultAt : Int32) (t_now : (Nat → Int32)) : va_W := [(q_t, .inr (6, [.ref q_t_keys, .int t_thrown, .ref q_t_now, .ref q_t_aside, .ref q_t_old, .int t_oldMany, .ref q_t_saved, .int t_savedSet, .ref q_t_input, .int t_inputMany, .ref q_t_output, .int t_outputMany, .int t_errorCode, .int t_errorPosition, .ref q_t_live, .ref q_t_weight, .ref q_t_measure, .int t_top, .ref q_t_planned, .ref q_t_came, .ref q_t_rank, .int t_ahead, .int t_round, .int t_loudest, .int t_textEnd, .int t_kind, .int t_from, .int t_to, .int t_value, .int t_fault, .int t_faultAt])), (q_t_now, .inl (cI, 176, .inl t_now))]
def wp_X6_joins (a1 : Int32) (a2 : Int32) (t_now : (Nat → Int32)) (post : (Nat → Int32) → Prop) : Prop := (vp_in (((4 : Int32) + (t_now 0))) 176 ∧ (vp_in (((24 : Int32) + (((upd t_now (((4 : Int32) + (t_now 0))).toNatClampNeg a1)) 0))) 176 ∧ (post ((upd ((upd ((upd t_now (((4 : Int32) + (t_now 0))).toNatClampNeg a1)) (((24 : Int32) + (((upd t_now (((4 : Int32) + (t_now 0))).toNatClampNeg a1)) 0))).toNatClampNeg a2)) 0 (((((upd ((upd t_now (((4 : Int32) + (t_now 0))).toNatClampNeg a1)) (((24 : Int32) + (((upd t_now (((4 : Int32) + (t_now 0))).toNatClampNeg a1)) 0))).toNatClampNeg a2)) 0) + (1 : Int32))))))))
abbrev rm_X6_joins : Room := { frames := 1, cells := 0, slots := 0, locals := 80 }
theorem in_X6_joins_X6 : ∀ w ∈ u_ws RX6 TX6 31, w ∈ wsX6_joins := by decide +kernel
theorem k_X6_joins_13 : Cond.fieldLink RX6 13 "ParityGameModel" "now" "[I" ∈ wsX6_joins := by decide +kernel
set_option maxHeartbeats 40000000 in
set_option maxRecDepth 100000 in
theorem c_X6_joins (l : Launch) (D : va_G) (X : gX) (cI cZ cB cG : ClassId) (sz : Nat) (q_t : Nat) (q_t_now : Nat) (q_t_keys : Nat) (q_t_aside : Nat) (q_t_old : Nat) (q_t_saved : Nat) (q_t_input : Nat) (q_t_output : Nat) (q_t_live : Nat) (q_t_weight : Nat) (q_t_measure : Nat) (q_t_planned : Nat) (q_t_came : Nat) (q_t_rank : Nat) (a1 : Int32) (a2 : Int32) (t_thrown : Int32) (t_oldMany : Int32) (t_savedSet : Int32) (t_inputMany : Int32) (t_outputMany : Int32) (t_errorCode : Int32) (t_errorPosition : Int32) (t_top : Int32) (t_ahead : Int32) (t_round : Int32) (t_loudest : Int32) (t_textEnd : Int32) (t_kind : Int32) (t_from : Int32) (t_to : Int32) (t_value : Int32) (t_fault : Int32) (t_faultAt : Int32) (t_now : (Nat → Int32)) (post : (Nat → Int32) → Prop) (hf : wp_X6_joins a1 a2 t_now post) : Met l yX6_joins wsX6_joins rm_X6_joins (gP D X (gT cI cZ cB cG) sz [.ref q_t, .int a1, .int a2] (wd_X6_joins cI cZ cB cG q_t q_t_now q_t_keys q_t_aside q_t_old q_t_saved q_t_input q_t_output q_t_live q_t_weight q_t_measure q_t_planned q_t_came q_t_rank t_thrown t_oldMany t_savedSet t_inputMany t_outputMany t_errorCode t_errorPosition t_top t_ahead t_round t_loudest t_textEnd t_kind t_from t_to t_value t_fault t_faultAt t_now)) (va_Qv (fun (u : (Nat → Int32)) => post u) (fun u t => gB D (gT cI cZ cB cG) (va_A (wd_X6_joins cI cZ cB cG q_t q_t_now q_t_keys q_t_aside q_t_old q_t_saved q_t_input q_t_output q_t_live q_t_weight q_t_measure q_t_planned q_t_came q_t_rank t_thrown t_oldMany t_savedSet t_inputMany t_outputMany t_errorCode t_errorPosition t_top t_ahead t_round t_loudest t_textEnd t_kind t_from t_to t_value t_fault t_faultAt t_now) sz) (wd_X6_joins cI cZ cB cG q_t q_t_now q_t_keys q_t_aside q_t_old q_t_saved q_t_input q_t_output q_t_live q_t_weight q_t_measure q_t_planned q_t_came q_t_rank t_thrown t_oldMany t_savedSet t_inputMany t_outputMany t_errorCode t_errorPosition t_top t_ahead t_round t_loudest t_textEnd t_kind t_from t_to t_value t_fault t_faultAt u) t) (va_A (wd_X6_joins cI cZ cB cG q_t q_t_now q_t_keys q_t_aside q_t_old q_t_saved q_t_input q_t_output q_t_live q_t_weight q_t_measure q_t_planned q_t_came q_t_rank t_thrown t_oldMany t_savedSet t_inputMany t_outputMany t_errorCode t_errorPosition t_top t_ahead t_round t_loudest t_textEnd t_kind t_from t_to t_value t_fault t_faultAt t_now) sz)) 0 0 (va_A (wd_X6_joins cI cZ cB cG q_t q_t_now q_t_keys q_t_aside q_t_old q_t_saved q_t_input q_t_output q_t_live q_t_weight q_t_measure q_t_planned q_t_came q_t_rank t_thrown t_oldMany t_savedSet t_inputMany t_outputMany t_errorCode t_errorPosition t_top t_ahead t_round t_loudest t_textEnd t_kind t_from t_to t_value t_fault t_faultAt t_now) sz) := by
  refine g_ofWv (cc := cX6_joins) (maxL := 3) (by decide +kernel) (Nat.le_of_ble_eq_true rfl) rfl ?_
  intro p e s m args below meth c A Q hx hb hml hown hts hA hK hE H hP hD hS ls hl hret
  have hinX6 := in_X6_joins_X6
  have k13 := hts _ k_X6_joins_13
  have hl : lv_has ls 3 [(0, .ref q_t), (1, .int a1), (2, .int a2)] := hl
  unfold wp_X6_joins at hf
  refine lv_aload_n hx hb dX6_joins_0 rfl (lv_at hl 0 rfl) ?_
  refine va_get (D := D) (ci := 6) (v := .ref q_t_now) (C := RX6) (T := TX6) (N := 31) hx hb hts hinX6 hown hK hP 0 rfl rfl 2 (by decide) k13 (fun _ h9 => h9) rfl dX6_joins_1 ?_
  refine lv_iconst (v := (4 : Int32)) hx hb dX6_joins_4 (by decide) ?_
  refine lv_aload_n hx hb dX6_joins_5 rfl (lv_at hl 0 rfl) ?_
  refine va_get (D := D) (ci := 6) (v := .ref q_t_now) (C := RX6) (T := TX6) (N := 31) hx hb hts hinX6 hown hK hP 0 rfl rfl 2 (by decide) k13 (fun _ h9 => h9) rfl dX6_joins_6 ?_
  refine lv_iconst (v := (0 : Int32)) hx hb dX6_joins_9 (by decide) ?_
  refine va_iald hx hb hK hP 1 0 rfl rfl (n := 176) (by unfold vp_in; decide) dX6_joins_10 ?_
  refine lv_iadd hx hb dX6_joins_11 ?_
  refine lv_iload_n hx hb dX6_joins_12 rfl (lv_at hl 1 rfl) ?_
  refine va_iast hx hb hK hP hD hS 1 0 rfl rfl (n := 176) hf.1 dX6_joins_13 (fun H locs hP hD hS => ?_)
  have hf := hf.2
  have hP : va_P D vwCl (wd_X6_joins cI cZ cB cG q_t q_t_now q_t_keys q_t_aside q_t_old q_t_saved q_t_input q_t_output q_t_live q_t_weight q_t_measure q_t_planned q_t_came q_t_rank t_thrown t_oldMany t_savedSet t_inputMany t_outputMany t_errorCode t_errorPosition t_top t_ahead t_round t_loudest t_textEnd t_kind t_from t_to t_value t_fault t_faultAt ((upd t_now (((4 : Int32) + (t_now 0))).toNatClampNeg a1))) H := hP
  have hD : va_D A (wd_X6_joins cI cZ cB cG q_t q_t_now q_t_keys q_t_aside q_t_old q_t_saved q_t_input q_t_output q_t_live q_t_weight q_t_measure q_t_planned q_t_came q_t_rank t_thrown t_oldMany t_savedSet t_inputMany t_outputMany t_errorCode t_errorPosition t_top t_ahead t_round t_loudest t_textEnd t_kind t_from t_to t_value t_fault t_faultAt ((upd t_now (((4 : Int32) + (t_now 0))).toNatClampNeg a1))) := hD
  refine lv_aload_n hx hb dX6_joins_14 rfl (lv_at hl 0 rfl) ?_
  refine va_get (D := D) (ci := 6) (v := .ref q_t_now) (C := RX6) (T := TX6) (N := 31) hx hb hts hinX6 hown hK hP 0 rfl rfl 2 (by decide) k13 (fun _ h9 => h9) rfl dX6_joins_15 ?_
  refine lv_bipush (v := (24 : Int32)) hx hb dX6_joins_18 (by decide) ?_
  refine lv_aload_n hx hb dX6_joins_20 rfl (lv_at hl 0 rfl) ?_
  refine va_get (D := D) (ci := 6) (v := .ref q_t_now) (C := RX6) (T := TX6) (N := 31) hx hb hts hinX6 hown hK hP 0 rfl rfl 2 (by decide) k13 (fun _ h9 => h9) rfl dX6_joins_21 ?_
  refine lv_iconst (v := (0 : Int32)) hx hb dX6_joins_24 (by decide) ?_
  refine va_iald hx hb hK hP 1 0 rfl rfl (n := 176) (by unfold vp_in; decide) dX6_joins_25 ?_
  refine lv_iadd hx hb dX6_joins_26 ?_
  refine lv_iload_n hx hb dX6_joins_27 rfl (lv_at hl 2 rfl) ?_
  refine va_iast hx hb hK hP hD hS 1 0 rfl rfl (n := 176) hf.1 dX6_joins_28 (fun H locs hP hD hS => ?_)
  have hf := hf.2
  have hP : va_P D vwCl (wd_X6_joins cI cZ cB cG q_t q_t_now q_t_keys q_t_aside q_t_old q_t_saved q_t_input q_t_output q_t_live q_t_weight q_t_measure q_t_planned q_t_came q_t_rank t_thrown t_oldMany t_savedSet t_inputMany t_outputMany t_errorCode t_errorPosition t_top t_ahead t_round t_loudest t_textEnd t_kind t_from t_to t_value t_fault t_faultAt ((upd ((upd t_now (((4 : Int32) + (t_now 0))).toNatClampNeg a1)) (((24 : Int32) + (((upd t_now (((4 : Int32) + (t_now 0))).toNatClampNeg a1)) 0))).toNatClampNeg a2))) H := hP
  have hD : va_D A (wd_X6_joins cI cZ cB cG q_t q_t_now q_t_keys q_t_aside q_t_old q_t_saved q_t_input q_t_output q_t_live q_t_weight q_t_measure q_t_planned q_t_came q_t_rank t_thrown t_oldMany t_savedSet t_inputMany t_outputMany t_errorCode t_errorPosition t_top t_ahead t_round t_loudest t_textEnd t_kind t_from t_to t_value t_fault t_faultAt ((upd ((upd t_now (((4 : Int32) + (t_now 0))).toNatClampNeg a1)) (((24 : Int32) + (((upd t_now (((4 : Int32) + (t_now 0))).toNatClampNeg a1)) 0))).toNatClampNeg a2))) := hD
  refine lv_aload_n hx hb dX6_joins_29 rfl (lv_at hl 0 rfl) ?_
  refine va_get (D := D) (ci := 6) (v := .ref q_t_now) (C := RX6) (T := TX6) (N := 31) hx hb hts hinX6 hown hK hP 0 rfl rfl 2 (by decide) k13 (fun _ h9 => h9) rfl dX6_joins_30 ?_
  refine lv_iconst (v := (0 : Int32)) hx hb dX6_joins_33 (by decide) ?_
  refine lv_dup2_11 hx hb dX6_joins_34 rfl rfl ?_
  refine va_iald hx hb hK hP 1 0 rfl rfl (n := 176) (by unfold vp_in; decide) dX6_joins_35 ?_
  refine lv_iconst (v := (1 : Int32)) hx hb dX6_joins_36 (by decide) ?_
  refine lv_iadd hx hb dX6_joins_37 ?_
  refine va_iast hx hb hK hP hD hS 1 0 rfl rfl (n := 176) (by unfold vp_in; decide) dX6_joins_38 (fun H locs hP hD hS => ?_)
  have hP : va_P D vwCl (wd_X6_joins cI cZ cB cG q_t q_t_now q_t_keys q_t_aside q_t_old q_t_saved q_t_input q_t_output q_t_live q_t_weight q_t_measure q_t_planned q_t_came q_t_rank t_thrown t_oldMany t_savedSet t_inputMany t_outputMany t_errorCode t_errorPosition t_top t_ahead t_round t_loudest t_textEnd t_kind t_from t_to t_value t_fault t_faultAt ((upd ((upd ((upd t_now (((4 : Int32) + (t_now 0))).toNatClampNeg a1)) (((24 : Int32) + (((upd t_now (((4 : Int32) + (t_now 0))).toNatClampNeg a1)) 0))).toNatClampNeg a2)) 0 (((((upd ((upd t_now (((4 : Int32) + (t_now 0))).toNatClampNeg a1)) (((24 : Int32) + (((upd t_now (((4 : Int32) + (t_now 0))).toNatClampNeg a1)) 0))).toNatClampNeg a2)) 0) + (1 : Int32)))))) H := hP
  have hD : va_D A (wd_X6_joins cI cZ cB cG q_t q_t_now q_t_keys q_t_aside q_t_old q_t_saved q_t_input q_t_output q_t_live q_t_weight q_t_measure q_t_planned q_t_came q_t_rank t_thrown t_oldMany t_savedSet t_inputMany t_outputMany t_errorCode t_errorPosition t_top t_ahead t_round t_loudest t_textEnd t_kind t_from t_to t_value t_fault t_faultAt ((upd ((upd ((upd t_now (((4 : Int32) + (t_now 0))).toNatClampNeg a1)) (((24 : Int32) + (((upd t_now (((4 : Int32) + (t_now 0))).toNatClampNeg a1)) 0))).toNatClampNeg a2)) 0 (((((upd ((upd t_now (((4 : Int32) + (t_now 0))).toNatClampNeg a1)) (((24 : Int32) + (((upd t_now (((4 : Int32) + (t_now 0))).toNatClampNeg a1)) 0))).toNatClampNeg a2)) 0) + (1 : Int32)))))) := hD
  exact hret ((upd ((upd ((upd t_now (((4 : Int32) + (t_now 0))).toNatClampNeg a1)) (((24 : Int32) + (((upd t_now (((4 : Int32) + (t_now 0))).toNatClampNeg a1)) 0))).toNatClampNeg a2)) 0 (((((upd ((upd t_now (((4 : Int32) + (t_now 0))).toNatClampNeg a1)) (((24 : Int32) + (((upd t_now (((4 : Int32) + (t_now 0))).toNatClampNeg a1)) 0))).toNatClampNeg a2)) 0) + (1 : Int32))))) hf hP hD hS dX6_joins_39
abbrev wd_X6_leads (cI cZ cB cG : ClassId) (q_t : Nat) (q_t_now : Nat) (q_t_keys : Nat) (q_t_aside : Nat) (q_t_old : Nat) (q_t_saved : Nat) (q_t_input : Nat) (q_t_output : Nat) (q_t_live : Nat) (q_t_weight : Nat) (q_t_measure : Nat) (q_t_planned : Nat) (q_t_came : Nat) (q_t_rank : Nat) (t_thrown : Int32) (t_oldMany : Int32) (t_savedSet : Int32) (t_inputMany : Int32) (t_outputMany : Int32) (t_errorCode : Int32) (t_errorPosition : Int32) (t_top : Int32) (t_ahead : Int32) (t_round : Int32) (t_loudest : Int32) (t_textEnd : Int32) (t_kind : Int32) (t_from : Int32) (t_to : Int32) (t_value : Int32) (t_fault : Int32) (t_faultAt : Int32) (t_now : (Nat → Int32)) : va_W := [(q_t, .inr (6, [.ref q_t_keys, .int t_thrown, .ref q_t_now, .ref q_t_aside, .ref q_t_old, .int t_oldMany, .ref q_t_saved, .int t_savedSet, .ref q_t_input, .int t_inputMany, .ref q_t_output, .int t_outputMany, .int t_errorCode, .int t_errorPosition, .ref q_t_live, .ref q_t_weight, .ref q_t_measure, .int t_top, .ref q_t_planned, .ref q_t_came, .ref q_t_rank, .int t_ahead, .int t_round, .int t_loudest, .int t_textEnd, .int t_kind, .int t_from, .int t_to, .int t_value, .int t_fault, .int t_faultAt])), (q_t_now, .inl (cI, 176, .inl t_now))]
def wp_X6_leads (a1 : Int32) (a2 : Int32) (t_now : (Nat → Int32)) (post : (Nat → Int32) → Prop) : Prop := (vp_in (((44 : Int32) + (t_now 1))) 176 ∧ (vp_in (((105 : Int32) + (((upd t_now (((44 : Int32) + (t_now 1))).toNatClampNeg a1)) 1))) 176 ∧ (post ((upd ((upd ((upd t_now (((44 : Int32) + (t_now 1))).toNatClampNeg a1)) (((105 : Int32) + (((upd t_now (((44 : Int32) + (t_now 1))).toNatClampNeg a1)) 1))).toNatClampNeg a2)) 1 (((((upd ((upd t_now (((44 : Int32) + (t_now 1))).toNatClampNeg a1)) (((105 : Int32) + (((upd t_now (((44 : Int32) + (t_now 1))).toNatClampNeg a1)) 1))).toNatClampNeg a2)) 1) + (1 : Int32))))))))
abbrev rm_X6_leads : Room := { frames := 1, cells := 0, slots := 0, locals := 80 }
theorem in_X6_leads_X6 : ∀ w ∈ u_ws RX6 TX6 31, w ∈ wsX6_leads := by decide +kernel
theorem k_X6_leads_13 : Cond.fieldLink RX6 13 "ParityGameModel" "now" "[I" ∈ wsX6_leads := by decide +kernel
set_option maxHeartbeats 40000000 in
set_option maxRecDepth 100000 in
theorem c_X6_leads (l : Launch) (D : va_G) (X : gX) (cI cZ cB cG : ClassId) (sz : Nat) (q_t : Nat) (q_t_now : Nat) (q_t_keys : Nat) (q_t_aside : Nat) (q_t_old : Nat) (q_t_saved : Nat) (q_t_input : Nat) (q_t_output : Nat) (q_t_live : Nat) (q_t_weight : Nat) (q_t_measure : Nat) (q_t_planned : Nat) (q_t_came : Nat) (q_t_rank : Nat) (a1 : Int32) (a2 : Int32) (t_thrown : Int32) (t_oldMany : Int32) (t_savedSet : Int32) (t_inputMany : Int32) (t_outputMany : Int32) (t_errorCode : Int32) (t_errorPosition : Int32) (t_top : Int32) (t_ahead : Int32) (t_round : Int32) (t_loudest : Int32) (t_textEnd : Int32) (t_kind : Int32) (t_from : Int32) (t_to : Int32) (t_value : Int32) (t_fault : Int32) (t_faultAt : Int32) (t_now : (Nat → Int32)) (post : (Nat → Int32) → Prop) (hf : wp_X6_leads a1 a2 t_now post) : Met l yX6_leads wsX6_leads rm_X6_leads (gP D X (gT cI cZ cB cG) sz [.ref q_t, .int a1, .int a2] (wd_X6_leads cI cZ cB cG q_t q_t_now q_t_keys q_t_aside q_t_old q_t_saved q_t_input q_t_output q_t_live q_t_weight q_t_measure q_t_planned q_t_came q_t_rank t_thrown t_oldMany t_savedSet t_inputMany t_outputMany t_errorCode t_errorPosition t_top t_ahead t_round t_loudest t_textEnd t_kind t_from t_to t_value t_fault t_faultAt t_now)) (va_Qv (fun (u : (Nat → Int32)) => post u) (fun u t => gB D (gT cI cZ cB cG) (va_A (wd_X6_leads cI cZ cB cG q_t q_t_now q_t_keys q_t_aside q_t_old q_t_saved q_t_input q_t_output q_t_live q_t_weight q_t_measure q_t_planned q_t_came q_t_rank t_thrown t_oldMany t_savedSet t_inputMany t_outputMany t_errorCode t_errorPosition t_top t_ahead t_round t_loudest t_textEnd t_kind t_from t_to t_value t_fault t_faultAt t_now) sz) (wd_X6_leads cI cZ cB cG q_t q_t_now q_t_keys q_t_aside q_t_old q_t_saved q_t_input q_t_output q_t_live q_t_weight q_t_measure q_t_planned q_t_came q_t_rank t_thrown t_oldMany t_savedSet t_inputMany t_outputMany t_errorCode t_errorPosition t_top t_ahead t_round t_loudest t_textEnd t_kind t_from t_to t_value t_fault t_faultAt u) t) (va_A (wd_X6_leads cI cZ cB cG q_t q_t_now q_t_keys q_t_aside q_t_old q_t_saved q_t_input q_t_output q_t_live q_t_weight q_t_measure q_t_planned q_t_came q_t_rank t_thrown t_oldMany t_savedSet t_inputMany t_outputMany t_errorCode t_errorPosition t_top t_ahead t_round t_loudest t_textEnd t_kind t_from t_to t_value t_fault t_faultAt t_now) sz)) 0 0 (va_A (wd_X6_leads cI cZ cB cG q_t q_t_now q_t_keys q_t_aside q_t_old q_t_saved q_t_input q_t_output q_t_live q_t_weight q_t_measure q_t_planned q_t_came q_t_rank t_thrown t_oldMany t_savedSet t_inputMany t_outputMany t_errorCode t_errorPosition t_top t_ahead t_round t_loudest t_textEnd t_kind t_from t_to t_value t_fault t_faultAt t_now) sz) := by
  refine g_ofWv (cc := cX6_leads) (maxL := 3) (by decide +kernel) (Nat.le_of_ble_eq_true rfl) rfl ?_
  intro p e s m args below meth c A Q hx hb hml hown hts hA hK hE H hP hD hS ls hl hret
  have hinX6 := in_X6_leads_X6
  have k13 := hts _ k_X6_leads_13
  have hl : lv_has ls 3 [(0, .ref q_t), (1, .int a1), (2, .int a2)] := hl
  unfold wp_X6_leads at hf
  refine lv_aload_n hx hb dX6_leads_0 rfl (lv_at hl 0 rfl) ?_
  refine va_get (D := D) (ci := 6) (v := .ref q_t_now) (C := RX6) (T := TX6) (N := 31) hx hb hts hinX6 hown hK hP 0 rfl rfl 2 (by decide) k13 (fun _ h9 => h9) rfl dX6_leads_1 ?_
  refine lv_bipush (v := (44 : Int32)) hx hb dX6_leads_4 (by decide) ?_
  refine lv_aload_n hx hb dX6_leads_6 rfl (lv_at hl 0 rfl) ?_
  refine va_get (D := D) (ci := 6) (v := .ref q_t_now) (C := RX6) (T := TX6) (N := 31) hx hb hts hinX6 hown hK hP 0 rfl rfl 2 (by decide) k13 (fun _ h9 => h9) rfl dX6_leads_7 ?_
  refine lv_iconst (v := (1 : Int32)) hx hb dX6_leads_10 (by decide) ?_
  refine va_iald hx hb hK hP 1 0 rfl rfl (n := 176) (by unfold vp_in; decide) dX6_leads_11 ?_
  refine lv_iadd hx hb dX6_leads_12 ?_
  refine lv_iload_n hx hb dX6_leads_13 rfl (lv_at hl 1 rfl) ?_
  refine va_iast hx hb hK hP hD hS 1 0 rfl rfl (n := 176) hf.1 dX6_leads_14 (fun H locs hP hD hS => ?_)
  have hf := hf.2
  have hP : va_P D vwCl (wd_X6_leads cI cZ cB cG q_t q_t_now q_t_keys q_t_aside q_t_old q_t_saved q_t_input q_t_output q_t_live q_t_weight q_t_measure q_t_planned q_t_came q_t_rank t_thrown t_oldMany t_savedSet t_inputMany t_outputMany t_errorCode t_errorPosition t_top t_ahead t_round t_loudest t_textEnd t_kind t_from t_to t_value t_fault t_faultAt ((upd t_now (((44 : Int32) + (t_now 1))).toNatClampNeg a1))) H := hP
  have hD : va_D A (wd_X6_leads cI cZ cB cG q_t q_t_now q_t_keys q_t_aside q_t_old q_t_saved q_t_input q_t_output q_t_live q_t_weight q_t_measure q_t_planned q_t_came q_t_rank t_thrown t_oldMany t_savedSet t_inputMany t_outputMany t_errorCode t_errorPosition t_top t_ahead t_round t_loudest t_textEnd t_kind t_from t_to t_value t_fault t_faultAt ((upd t_now (((44 : Int32) + (t_now 1))).toNatClampNeg a1))) := hD
  refine lv_aload_n hx hb dX6_leads_15 rfl (lv_at hl 0 rfl) ?_
  refine va_get (D := D) (ci := 6) (v := .ref q_t_now) (C := RX6) (T := TX6) (N := 31) hx hb hts hinX6 hown hK hP 0 rfl rfl 2 (by decide) k13 (fun _ h9 => h9) rfl dX6_leads_16 ?_
  refine lv_bipush (v := (105 : Int32)) hx hb dX6_leads_19 (by decide) ?_
  refine lv_aload_n hx hb dX6_leads_21 rfl (lv_at hl 0 rfl) ?_
  refine va_get (D := D) (ci := 6) (v := .ref q_t_now) (C := RX6) (T := TX6) (N := 31) hx hb hts hinX6 hown hK hP 0 rfl rfl 2 (by decide) k13 (fun _ h9 => h9) rfl dX6_leads_22 ?_
  refine lv_iconst (v := (1 : Int32)) hx hb dX6_leads_25 (by decide) ?_
  refine va_iald hx hb hK hP 1 0 rfl rfl (n := 176) (by unfold vp_in; decide) dX6_leads_26 ?_
  refine lv_iadd hx hb dX6_leads_27 ?_
  refine lv_iload_n hx hb dX6_leads_28 rfl (lv_at hl 2 rfl) ?_
  refine va_iast hx hb hK hP hD hS 1 0 rfl rfl (n := 176) hf.1 dX6_leads_29 (fun H locs hP hD hS => ?_)
  have hf := hf.2
  have hP : va_P D vwCl (wd_X6_leads cI cZ cB cG q_t q_t_now q_t_keys q_t_aside q_t_old q_t_saved q_t_input q_t_output q_t_live q_t_weight q_t_measure q_t_planned q_t_came q_t_rank t_thrown t_oldMany t_savedSet t_inputMany t_outputMany t_errorCode t_errorPosition t_top t_ahead t_round t_loudest t_textEnd t_kind t_from t_to t_value t_fault t_faultAt ((upd ((upd t_now (((44 : Int32) + (t_now 1))).toNatClampNeg a1)) (((105 : Int32) + (((upd t_now (((44 : Int32) + (t_now 1))).toNatClampNeg a1)) 1))).toNatClampNeg a2))) H := hP
  have hD : va_D A (wd_X6_leads cI cZ cB cG q_t q_t_now q_t_keys q_t_aside q_t_old q_t_saved q_t_input q_t_output q_t_live q_t_weight q_t_measure q_t_planned q_t_came q_t_rank t_thrown t_oldMany t_savedSet t_inputMany t_outputMany t_errorCode t_errorPosition t_top t_ahead t_round t_loudest t_textEnd t_kind t_from t_to t_value t_fault t_faultAt ((upd ((upd t_now (((44 : Int32) + (t_now 1))).toNatClampNeg a1)) (((105 : Int32) + (((upd t_now (((44 : Int32) + (t_now 1))).toNatClampNeg a1)) 1))).toNatClampNeg a2))) := hD
  refine lv_aload_n hx hb dX6_leads_30 rfl (lv_at hl 0 rfl) ?_
  refine va_get (D := D) (ci := 6) (v := .ref q_t_now) (C := RX6) (T := TX6) (N := 31) hx hb hts hinX6 hown hK hP 0 rfl rfl 2 (by decide) k13 (fun _ h9 => h9) rfl dX6_leads_31 ?_
  refine lv_iconst (v := (1 : Int32)) hx hb dX6_leads_34 (by decide) ?_
  refine lv_dup2_11 hx hb dX6_leads_35 rfl rfl ?_
  refine va_iald hx hb hK hP 1 0 rfl rfl (n := 176) (by unfold vp_in; decide) dX6_leads_36 ?_
  refine lv_iconst (v := (1 : Int32)) hx hb dX6_leads_37 (by decide) ?_
  refine lv_iadd hx hb dX6_leads_38 ?_
  refine va_iast hx hb hK hP hD hS 1 0 rfl rfl (n := 176) (by unfold vp_in; decide) dX6_leads_39 (fun H locs hP hD hS => ?_)
  have hP : va_P D vwCl (wd_X6_leads cI cZ cB cG q_t q_t_now q_t_keys q_t_aside q_t_old q_t_saved q_t_input q_t_output q_t_live q_t_weight q_t_measure q_t_planned q_t_came q_t_rank t_thrown t_oldMany t_savedSet t_inputMany t_outputMany t_errorCode t_errorPosition t_top t_ahead t_round t_loudest t_textEnd t_kind t_from t_to t_value t_fault t_faultAt ((upd ((upd ((upd t_now (((44 : Int32) + (t_now 1))).toNatClampNeg a1)) (((105 : Int32) + (((upd t_now (((44 : Int32) + (t_now 1))).toNatClampNeg a1)) 1))).toNatClampNeg a2)) 1 (((((upd ((upd t_now (((44 : Int32) + (t_now 1))).toNatClampNeg a1)) (((105 : Int32) + (((upd t_now (((44 : Int32) + (t_now 1))).toNatClampNeg a1)) 1))).toNatClampNeg a2)) 1) + (1 : Int32)))))) H := hP
  have hD : va_D A (wd_X6_leads cI cZ cB cG q_t q_t_now q_t_keys q_t_aside q_t_old q_t_saved q_t_input q_t_output q_t_live q_t_weight q_t_measure q_t_planned q_t_came q_t_rank t_thrown t_oldMany t_savedSet t_inputMany t_outputMany t_errorCode t_errorPosition t_top t_ahead t_round t_loudest t_textEnd t_kind t_from t_to t_value t_fault t_faultAt ((upd ((upd ((upd t_now (((44 : Int32) + (t_now 1))).toNatClampNeg a1)) (((105 : Int32) + (((upd t_now (((44 : Int32) + (t_now 1))).toNatClampNeg a1)) 1))).toNatClampNeg a2)) 1 (((((upd ((upd t_now (((44 : Int32) + (t_now 1))).toNatClampNeg a1)) (((105 : Int32) + (((upd t_now (((44 : Int32) + (t_now 1))).toNatClampNeg a1)) 1))).toNatClampNeg a2)) 1) + (1 : Int32)))))) := hD
  exact hret ((upd ((upd ((upd t_now (((44 : Int32) + (t_now 1))).toNatClampNeg a1)) (((105 : Int32) + (((upd t_now (((44 : Int32) + (t_now 1))).toNatClampNeg a1)) 1))).toNatClampNeg a2)) 1 (((((upd ((upd t_now (((44 : Int32) + (t_now 1))).toNatClampNeg a1)) (((105 : Int32) + (((upd t_now (((44 : Int32) + (t_now 1))).toNatClampNeg a1)) 1))).toNatClampNeg a2)) 1) + (1 : Int32))))) hf hP hD hS dX6_leads_40
abbrev wd_X6_hears (cI cZ cB cG : ClassId) (q_t : Nat) (q_t_now : Nat) (q_t_keys : Nat) (q_t_aside : Nat) (q_t_old : Nat) (q_t_saved : Nat) (q_t_input : Nat) (q_t_output : Nat) (q_t_live : Nat) (q_t_weight : Nat) (q_t_measure : Nat) (q_t_planned : Nat) (q_t_came : Nat) (q_t_rank : Nat) (t_thrown : Int32) (t_oldMany : Int32) (t_savedSet : Int32) (t_inputMany : Int32) (t_outputMany : Int32) (t_errorCode : Int32) (t_errorPosition : Int32) (t_top : Int32) (t_ahead : Int32) (t_round : Int32) (t_loudest : Int32) (t_textEnd : Int32) (t_kind : Int32) (t_from : Int32) (t_to : Int32) (t_value : Int32) (t_fault : Int32) (t_faultAt : Int32) (t_now : (Nat → Int32)) : va_W := [(q_t, .inr (6, [.ref q_t_keys, .int t_thrown, .ref q_t_now, .ref q_t_aside, .ref q_t_old, .int t_oldMany, .ref q_t_saved, .int t_savedSet, .ref q_t_input, .int t_inputMany, .ref q_t_output, .int t_outputMany, .int t_errorCode, .int t_errorPosition, .ref q_t_live, .ref q_t_weight, .ref q_t_measure, .int t_top, .ref q_t_planned, .ref q_t_came, .ref q_t_rank, .int t_ahead, .int t_round, .int t_loudest, .int t_textEnd, .int t_kind, .int t_from, .int t_to, .int t_value, .int t_fault, .int t_faultAt])), (q_t_now, .inl (cI, 176, .inl t_now))]
def wp_X6_hears (a1 : Int32) (t_now : (Nat → Int32)) (post : (Nat → Int32) → Prop) : Prop := (vp_in (((24 : Int32) + a1)) 176 ∧ (vp_in (((166 : Int32) + ((upd t_now 2 a1) (((24 : Int32) + a1)).toNatClampNeg))) 176 ∧ (vp_in (((166 : Int32) + ((upd t_now 2 a1) (((24 : Int32) + a1)).toNatClampNeg))) 176 ∧ (post ((upd (upd t_now 2 a1) (((166 : Int32) + ((upd t_now 2 a1) (((24 : Int32) + a1)).toNatClampNeg))).toNatClampNeg ((((upd t_now 2 a1) (((166 : Int32) + ((upd t_now 2 a1) (((24 : Int32) + a1)).toNatClampNeg))).toNatClampNeg) + (1 : Int32)))))))))
abbrev rm_X6_hears : Room := { frames := 1, cells := 0, slots := 0, locals := 80 }
theorem in_X6_hears_X6 : ∀ w ∈ u_ws RX6 TX6 31, w ∈ wsX6_hears := by decide +kernel
theorem k_X6_hears_13 : Cond.fieldLink RX6 13 "ParityGameModel" "now" "[I" ∈ wsX6_hears := by decide +kernel
set_option maxHeartbeats 40000000 in
set_option maxRecDepth 100000 in
theorem c_X6_hears (l : Launch) (D : va_G) (X : gX) (cI cZ cB cG : ClassId) (sz : Nat) (q_t : Nat) (q_t_now : Nat) (q_t_keys : Nat) (q_t_aside : Nat) (q_t_old : Nat) (q_t_saved : Nat) (q_t_input : Nat) (q_t_output : Nat) (q_t_live : Nat) (q_t_weight : Nat) (q_t_measure : Nat) (q_t_planned : Nat) (q_t_came : Nat) (q_t_rank : Nat) (a1 : Int32) (t_thrown : Int32) (t_oldMany : Int32) (t_savedSet : Int32) (t_inputMany : Int32) (t_outputMany : Int32) (t_errorCode : Int32) (t_errorPosition : Int32) (t_top : Int32) (t_ahead : Int32) (t_round : Int32) (t_loudest : Int32) (t_textEnd : Int32) (t_kind : Int32) (t_from : Int32) (t_to : Int32) (t_value : Int32) (t_fault : Int32) (t_faultAt : Int32) (t_now : (Nat → Int32)) (post : (Nat → Int32) → Prop) (hf : wp_X6_hears a1 t_now post) : Met l yX6_hears wsX6_hears rm_X6_hears (gP D X (gT cI cZ cB cG) sz [.ref q_t, .int a1] (wd_X6_hears cI cZ cB cG q_t q_t_now q_t_keys q_t_aside q_t_old q_t_saved q_t_input q_t_output q_t_live q_t_weight q_t_measure q_t_planned q_t_came q_t_rank t_thrown t_oldMany t_savedSet t_inputMany t_outputMany t_errorCode t_errorPosition t_top t_ahead t_round t_loudest t_textEnd t_kind t_from t_to t_value t_fault t_faultAt t_now)) (va_Qv (fun (u : (Nat → Int32)) => post u) (fun u t => gB D (gT cI cZ cB cG) (va_A (wd_X6_hears cI cZ cB cG q_t q_t_now q_t_keys q_t_aside q_t_old q_t_saved q_t_input q_t_output q_t_live q_t_weight q_t_measure q_t_planned q_t_came q_t_rank t_thrown t_oldMany t_savedSet t_inputMany t_outputMany t_errorCode t_errorPosition t_top t_ahead t_round t_loudest t_textEnd t_kind t_from t_to t_value t_fault t_faultAt t_now) sz) (wd_X6_hears cI cZ cB cG q_t q_t_now q_t_keys q_t_aside q_t_old q_t_saved q_t_input q_t_output q_t_live q_t_weight q_t_measure q_t_planned q_t_came q_t_rank t_thrown t_oldMany t_savedSet t_inputMany t_outputMany t_errorCode t_errorPosition t_top t_ahead t_round t_loudest t_textEnd t_kind t_from t_to t_value t_fault t_faultAt u) t) (va_A (wd_X6_hears cI cZ cB cG q_t q_t_now q_t_keys q_t_aside q_t_old q_t_saved q_t_input q_t_output q_t_live q_t_weight q_t_measure q_t_planned q_t_came q_t_rank t_thrown t_oldMany t_savedSet t_inputMany t_outputMany t_errorCode t_errorPosition t_top t_ahead t_round t_loudest t_textEnd t_kind t_from t_to t_value t_fault t_faultAt t_now) sz)) 0 0 (va_A (wd_X6_hears cI cZ cB cG q_t q_t_now q_t_keys q_t_aside q_t_old q_t_saved q_t_input q_t_output q_t_live q_t_weight q_t_measure q_t_planned q_t_came q_t_rank t_thrown t_oldMany t_savedSet t_inputMany t_outputMany t_errorCode t_errorPosition t_top t_ahead t_round t_loudest t_textEnd t_kind t_from t_to t_value t_fault t_faultAt t_now) sz) := by
  refine g_ofWv (cc := cX6_hears) (maxL := 2) (by decide +kernel) (Nat.le_of_ble_eq_true rfl) rfl ?_
  intro p e s m args below meth c A Q hx hb hml hown hts hA hK hE H hP hD hS ls hl hret
  have hinX6 := in_X6_hears_X6
  have k13 := hts _ k_X6_hears_13
  have hl : lv_has ls 2 [(0, .ref q_t), (1, .int a1)] := hl
  unfold wp_X6_hears at hf
  refine lv_aload_n hx hb dX6_hears_0 rfl (lv_at hl 0 rfl) ?_
  refine va_get (D := D) (ci := 6) (v := .ref q_t_now) (C := RX6) (T := TX6) (N := 31) hx hb hts hinX6 hown hK hP 0 rfl rfl 2 (by decide) k13 (fun _ h9 => h9) rfl dX6_hears_1 ?_
  refine lv_iconst (v := (2 : Int32)) hx hb dX6_hears_4 (by decide) ?_
  refine lv_iload_n hx hb dX6_hears_5 rfl (lv_at hl 1 rfl) ?_
  refine va_iast hx hb hK hP hD hS 1 0 rfl rfl (n := 176) (by unfold vp_in; decide) dX6_hears_6 (fun H locs hP hD hS => ?_)
  have hP : va_P D vwCl (wd_X6_hears cI cZ cB cG q_t q_t_now q_t_keys q_t_aside q_t_old q_t_saved q_t_input q_t_output q_t_live q_t_weight q_t_measure q_t_planned q_t_came q_t_rank t_thrown t_oldMany t_savedSet t_inputMany t_outputMany t_errorCode t_errorPosition t_top t_ahead t_round t_loudest t_textEnd t_kind t_from t_to t_value t_fault t_faultAt (upd t_now 2 a1)) H := hP
  have hD : va_D A (wd_X6_hears cI cZ cB cG q_t q_t_now q_t_keys q_t_aside q_t_old q_t_saved q_t_input q_t_output q_t_live q_t_weight q_t_measure q_t_planned q_t_came q_t_rank t_thrown t_oldMany t_savedSet t_inputMany t_outputMany t_errorCode t_errorPosition t_top t_ahead t_round t_loudest t_textEnd t_kind t_from t_to t_value t_fault t_faultAt (upd t_now 2 a1)) := hD
  refine lv_aload_n hx hb dX6_hears_7 rfl (lv_at hl 0 rfl) ?_
  refine va_get (D := D) (ci := 6) (v := .ref q_t_now) (C := RX6) (T := TX6) (N := 31) hx hb hts hinX6 hown hK hP 0 rfl rfl 2 (by decide) k13 (fun _ h9 => h9) rfl dX6_hears_8 ?_
  refine lv_sipush (v := (166 : Int32)) hx hb dX6_hears_11 (by decide) ?_
  refine lv_aload_n hx hb dX6_hears_14 rfl (lv_at hl 0 rfl) ?_
  refine va_get (D := D) (ci := 6) (v := .ref q_t_now) (C := RX6) (T := TX6) (N := 31) hx hb hts hinX6 hown hK hP 0 rfl rfl 2 (by decide) k13 (fun _ h9 => h9) rfl dX6_hears_15 ?_
  refine lv_bipush (v := (24 : Int32)) hx hb dX6_hears_18 (by decide) ?_
  refine lv_iload_n hx hb dX6_hears_20 rfl (lv_at hl 1 rfl) ?_
  refine lv_iadd hx hb dX6_hears_21 ?_
  refine va_iald hx hb hK hP 1 0 rfl rfl (n := 176) hf.1 dX6_hears_22 ?_
  have hf := hf.2
  refine lv_iadd hx hb dX6_hears_23 ?_
  refine lv_dup2_11 hx hb dX6_hears_24 rfl rfl ?_
  refine va_iald hx hb hK hP 1 0 rfl rfl (n := 176) hf.1 dX6_hears_25 ?_
  have hf := hf.2
  refine lv_iconst (v := (1 : Int32)) hx hb dX6_hears_26 (by decide) ?_
  refine lv_iadd hx hb dX6_hears_27 ?_
  refine va_iast hx hb hK hP hD hS 1 0 rfl rfl (n := 176) hf.1 dX6_hears_28 (fun H locs hP hD hS => ?_)
  have hf := hf.2
  have hP : va_P D vwCl (wd_X6_hears cI cZ cB cG q_t q_t_now q_t_keys q_t_aside q_t_old q_t_saved q_t_input q_t_output q_t_live q_t_weight q_t_measure q_t_planned q_t_came q_t_rank t_thrown t_oldMany t_savedSet t_inputMany t_outputMany t_errorCode t_errorPosition t_top t_ahead t_round t_loudest t_textEnd t_kind t_from t_to t_value t_fault t_faultAt ((upd (upd t_now 2 a1) (((166 : Int32) + ((upd t_now 2 a1) (((24 : Int32) + a1)).toNatClampNeg))).toNatClampNeg ((((upd t_now 2 a1) (((166 : Int32) + ((upd t_now 2 a1) (((24 : Int32) + a1)).toNatClampNeg))).toNatClampNeg) + (1 : Int32)))))) H := hP
  have hD : va_D A (wd_X6_hears cI cZ cB cG q_t q_t_now q_t_keys q_t_aside q_t_old q_t_saved q_t_input q_t_output q_t_live q_t_weight q_t_measure q_t_planned q_t_came q_t_rank t_thrown t_oldMany t_savedSet t_inputMany t_outputMany t_errorCode t_errorPosition t_top t_ahead t_round t_loudest t_textEnd t_kind t_from t_to t_value t_fault t_faultAt ((upd (upd t_now 2 a1) (((166 : Int32) + ((upd t_now 2 a1) (((24 : Int32) + a1)).toNatClampNeg))).toNatClampNeg ((((upd t_now 2 a1) (((166 : Int32) + ((upd t_now 2 a1) (((24 : Int32) + a1)).toNatClampNeg))).toNatClampNeg) + (1 : Int32)))))) := hD
  exact hret ((upd (upd t_now 2 a1) (((166 : Int32) + ((upd t_now 2 a1) (((24 : Int32) + a1)).toNatClampNeg))).toNatClampNeg ((((upd t_now 2 a1) (((166 : Int32) + ((upd t_now 2 a1) (((24 : Int32) + a1)).toNatClampNeg))).toNatClampNeg) + (1 : Int32))))) hf hP hD hS dX6_hears_29
abbrev wd_X6_lays (cI cZ cB cG : ClassId) (q_t : Nat) (q_t_now : Nat) (q_t_keys : Nat) (q_t_aside : Nat) (q_t_old : Nat) (q_t_saved : Nat) (q_t_input : Nat) (q_t_output : Nat) (q_t_live : Nat) (q_t_weight : Nat) (q_t_measure : Nat) (q_t_planned : Nat) (q_t_came : Nat) (q_t_rank : Nat) (t_thrown : Int32) (t_oldMany : Int32) (t_savedSet : Int32) (t_inputMany : Int32) (t_outputMany : Int32) (t_errorCode : Int32) (t_errorPosition : Int32) (t_top : Int32) (t_ahead : Int32) (t_round : Int32) (t_loudest : Int32) (t_textEnd : Int32) (t_kind : Int32) (t_from : Int32) (t_to : Int32) (t_value : Int32) (t_fault : Int32) (t_faultAt : Int32) (t_now : (Nat → Int32)) : va_W := [(q_t, .inr (6, [.ref q_t_keys, .int t_thrown, .ref q_t_now, .ref q_t_aside, .ref q_t_old, .int t_oldMany, .ref q_t_saved, .int t_savedSet, .ref q_t_input, .int t_inputMany, .ref q_t_output, .int t_outputMany, .int t_errorCode, .int t_errorPosition, .ref q_t_live, .ref q_t_weight, .ref q_t_measure, .int t_top, .ref q_t_planned, .ref q_t_came, .ref q_t_rank, .int t_ahead, .int t_round, .int t_loudest, .int t_textEnd, .int t_kind, .int t_from, .int t_to, .int t_value, .int t_fault, .int t_faultAt])), (q_t_now, .inl (cI, 176, .inl t_now))]
def F_X6_lays_2 (K0 : Int32 → (Nat → Int32) → Prop) (rec : Int32 → (Nat → Int32) → Prop) (v2 : Int32) (t_now : (Nat → Int32)) : Prop := (((10 : Int32) ≤ v2 → (K0 v2 t_now)) ∧ (¬ ((10 : Int32) ≤ v2) → (vp_in (((166 : Int32) + v2)) 176 ∧ (rec ((v2 + (1 : Int32))) ((upd t_now (((166 : Int32) + v2)).toNatClampNeg (0 : Int32)))))))
def wp_X6_lays (a1 : Int32) (t_now : (Nat → Int32)) (post : (Nat → Int32) → Prop) : Prop := (∃ n, fx2 (F_X6_lays_2 (fun v2_1 t_now_2 => (wp_X6_hears a1 ((upd t_now_2 3 (0 : Int32))) (fun t_now_3 => (post t_now_3))))) n (0 : Int32) t_now)
abbrev rm_X6_lays : Room := { frames := 2, cells := 0, slots := 0, locals := 101 }
theorem in_X6_lays_X6 : ∀ w ∈ u_ws RX6 TX6 31, w ∈ wsX6_lays := by decide +kernel
theorem k_X6_lays_13 : Cond.fieldLink RX6 13 "ParityGameModel" "now" "[I" ∈ wsX6_lays := by decide +kernel
set_option maxHeartbeats 40000000 in
set_option maxRecDepth 100000 in
theorem c_X6_lays (l : Launch) (D : va_G) (X : gX) (cI cZ cB cG : ClassId) (sz : Nat) (q_t : Nat) (q_t_now : Nat) (q_t_keys : Nat) (q_t_aside : Nat) (q_t_old : Nat) (q_t_saved : Nat) (q_t_input : Nat) (q_t_output : Nat) (q_t_live : Nat) (q_t_weight : Nat) (q_t_measure : Nat) (q_t_planned : Nat) (q_t_came : Nat) (q_t_rank : Nat) (a1 : Int32) (t_thrown : Int32) (t_oldMany : Int32) (t_savedSet : Int32) (t_inputMany : Int32) (t_outputMany : Int32) (t_errorCode : Int32) (t_errorPosition : Int32) (t_top : Int32) (t_ahead : Int32) (t_round : Int32) (t_loudest : Int32) (t_textEnd : Int32) (t_kind : Int32) (t_from : Int32) (t_to : Int32) (t_value : Int32) (t_fault : Int32) (t_faultAt : Int32) (t_now : (Nat → Int32)) (post : (Nat → Int32) → Prop) (hf : wp_X6_lays a1 t_now post) : Met l yX6_lays wsX6_lays rm_X6_lays (gP D X (gT cI cZ cB cG) sz [.ref q_t, .int a1] (wd_X6_lays cI cZ cB cG q_t q_t_now q_t_keys q_t_aside q_t_old q_t_saved q_t_input q_t_output q_t_live q_t_weight q_t_measure q_t_planned q_t_came q_t_rank t_thrown t_oldMany t_savedSet t_inputMany t_outputMany t_errorCode t_errorPosition t_top t_ahead t_round t_loudest t_textEnd t_kind t_from t_to t_value t_fault t_faultAt t_now)) (va_Qv (fun (u : (Nat → Int32)) => post u) (fun u t => gB D (gT cI cZ cB cG) (va_A (wd_X6_lays cI cZ cB cG q_t q_t_now q_t_keys q_t_aside q_t_old q_t_saved q_t_input q_t_output q_t_live q_t_weight q_t_measure q_t_planned q_t_came q_t_rank t_thrown t_oldMany t_savedSet t_inputMany t_outputMany t_errorCode t_errorPosition t_top t_ahead t_round t_loudest t_textEnd t_kind t_from t_to t_value t_fault t_faultAt t_now) sz) (wd_X6_lays cI cZ cB cG q_t q_t_now q_t_keys q_t_aside q_t_old q_t_saved q_t_input q_t_output q_t_live q_t_weight q_t_measure q_t_planned q_t_came q_t_rank t_thrown t_oldMany t_savedSet t_inputMany t_outputMany t_errorCode t_errorPosition t_top t_ahead t_round t_loudest t_textEnd t_kind t_from t_to t_value t_fault t_faultAt u) t) (va_A (wd_X6_lays cI cZ cB cG q_t q_t_now q_t_keys q_t_aside q_t_old q_t_saved q_t_input q_t_output q_t_live q_t_weight q_t_measure q_t_planned q_t_came q_t_rank t_thrown t_oldMany t_savedSet t_inputMany t_outputMany t_errorCode t_errorPosition t_top t_ahead t_round t_loudest t_textEnd t_kind t_from t_to t_value t_fault t_faultAt t_now) sz)) 0 0 (va_A (wd_X6_lays cI cZ cB cG q_t q_t_now q_t_keys q_t_aside q_t_old q_t_saved q_t_input q_t_output q_t_live q_t_weight q_t_measure q_t_planned q_t_came q_t_rank t_thrown t_oldMany t_savedSet t_inputMany t_outputMany t_errorCode t_errorPosition t_top t_ahead t_round t_loudest t_textEnd t_kind t_from t_to t_value t_fault t_faultAt t_now) sz) := by
  refine g_ofWv (cc := cX6_lays) (maxL := 3) (by decide +kernel) (Nat.le_of_ble_eq_true rfl) rfl ?_
  intro p e s m args below meth c A Q hx hb hml hown hts hA hK hE H hP hD hS ls hl hret
  have hinX6 := in_X6_lays_X6
  have k13 := hts _ k_X6_lays_13
  have hl : lv_has ls 3 [(0, .ref q_t), (1, .int a1)] := hl
  have L2 : ∀ (v1 : Int32) (K0 : Int32 → (Nat → Int32) → Prop) (_ : ∀ (v2 : Int32) (t_now : (Nat → Int32)) (H : Heap) (locs : List Loc) (ls : Array Slot), K0 v2 t_now → va_P D vwCl (wd_X6_lays cI cZ cB cG q_t q_t_now q_t_keys q_t_aside q_t_old q_t_saved q_t_input q_t_output q_t_live q_t_weight q_t_measure q_t_planned q_t_came q_t_rank t_thrown t_oldMany t_savedSet t_inputMany t_outputMany t_errorCode t_errorPosition t_top t_ahead t_round t_loudest t_textEnd t_kind t_from t_to t_value t_fault t_faultAt t_now) H → va_D A (wd_X6_lays cI cZ cB cG q_t q_t_now q_t_keys q_t_aside q_t_old q_t_saved q_t_input q_t_output q_t_live q_t_weight q_t_measure q_t_planned q_t_came q_t_rank t_thrown t_oldMany t_savedSet t_inputMany t_outputMany t_errorCode t_errorPosition t_top t_ahead t_round t_loudest t_textEnd t_kind t_from t_to t_value t_fault t_faultAt t_now) → va_S A s.heap H locs → lv_has ls 3 [(0, .ref q_t), (1, .int v1)] → W p l e (rm_X6_lays) s m args below meth c H locs 0 0 Q (F0 m 25 ls []))  (n : Nat) (v2 : Int32) (t_now : (Nat → Int32)) (H : Heap) (locs : List Loc) (ls : Array Slot), fx2 (F_X6_lays_2 K0) n v2 t_now → va_P D vwCl (wd_X6_lays cI cZ cB cG q_t q_t_now q_t_keys q_t_aside q_t_old q_t_saved q_t_input q_t_output q_t_live q_t_weight q_t_measure q_t_planned q_t_came q_t_rank t_thrown t_oldMany t_savedSet t_inputMany t_outputMany t_errorCode t_errorPosition t_top t_ahead t_round t_loudest t_textEnd t_kind t_from t_to t_value t_fault t_faultAt t_now) H → va_D A (wd_X6_lays cI cZ cB cG q_t q_t_now q_t_keys q_t_aside q_t_old q_t_saved q_t_input q_t_output q_t_live q_t_weight q_t_measure q_t_planned q_t_came q_t_rank t_thrown t_oldMany t_savedSet t_inputMany t_outputMany t_errorCode t_errorPosition t_top t_ahead t_round t_loudest t_textEnd t_kind t_from t_to t_value t_fault t_faultAt t_now) → va_S A s.heap H locs → lv_has ls 3 [(0, .ref q_t), (1, .int v1), (2, .int v2)] → W p l e (rm_X6_lays) s m args below meth c H locs 0 0 Q (F0 m 2 ls []) := by
    intro v1 K0 hK0 n
    induction n with
    | zero => intro v2 t_now H locs ls hf; exact (hf : False).elim
    | succ n ih =>
      intro v2 t_now H locs ls hf hP hD hS hl
      have hf : F_X6_lays_2 K0 (fx2 (F_X6_lays_2 K0) n) v2 t_now := hf
      unfold F_X6_lays_2 at hf
      refine lv_iload_n hx hb dX6_lays_2 rfl (lv_at hl 2 rfl) ?_
      refine lv_bipush (v := (10 : Int32)) hx hb dX6_lays_3 (by decide) ?_
      refine lv_icmp_ge (tgt := 25) hx hb dX6_lays_5 (by decide) (fun hc => ?_) (fun hc => ?_)
      · have hf := hf.1 hc
        exact hK0 _ _ _ _ _ hf hP hD hS (lv_sub hl [0, 1] rfl)
      · have hf := hf.2 hc
        refine lv_aload_n hx hb dX6_lays_8 rfl (lv_at hl 0 rfl) ?_
        refine va_get (D := D) (ci := 6) (v := .ref q_t_now) (C := RX6) (T := TX6) (N := 31) hx hb hts hinX6 hown hK hP 0 rfl rfl 2 (by decide) k13 (fun _ h9 => h9) rfl dX6_lays_9 ?_
        refine lv_sipush (v := (166 : Int32)) hx hb dX6_lays_12 (by decide) ?_
        refine lv_iload_n hx hb dX6_lays_15 rfl (lv_at hl 2 rfl) ?_
        refine lv_iadd hx hb dX6_lays_16 ?_
        refine lv_iconst (v := (0 : Int32)) hx hb dX6_lays_17 (by decide) ?_
        refine va_iast hx hb hK hP hD hS 1 0 rfl rfl (n := 176) hf.1 dX6_lays_18 (fun H locs hP hD hS => ?_)
        have hf := hf.2
        have hP : va_P D vwCl (wd_X6_lays cI cZ cB cG q_t q_t_now q_t_keys q_t_aside q_t_old q_t_saved q_t_input q_t_output q_t_live q_t_weight q_t_measure q_t_planned q_t_came q_t_rank t_thrown t_oldMany t_savedSet t_inputMany t_outputMany t_errorCode t_errorPosition t_top t_ahead t_round t_loudest t_textEnd t_kind t_from t_to t_value t_fault t_faultAt ((upd t_now (((166 : Int32) + v2)).toNatClampNeg (0 : Int32)))) H := hP
        have hD : va_D A (wd_X6_lays cI cZ cB cG q_t q_t_now q_t_keys q_t_aside q_t_old q_t_saved q_t_input q_t_output q_t_live q_t_weight q_t_measure q_t_planned q_t_came q_t_rank t_thrown t_oldMany t_savedSet t_inputMany t_outputMany t_errorCode t_errorPosition t_top t_ahead t_round t_loudest t_textEnd t_kind t_from t_to t_value t_fault t_faultAt ((upd t_now (((166 : Int32) + v2)).toNatClampNeg (0 : Int32)))) := hD
        refine lv_iinc (v := (v2 + (1 : Int32))) (lv' := [(2, .int ((v2 + (1 : Int32)))), (0, .ref q_t), (1, .int v1)]) hx hb dX6_lays_19 hl (k := 2) rfl rfl (by decide) rfl (fun ls hl => ?_)
        refine lv_goto (tgt := 2) hx hb dX6_lays_22 (by decide) ?_
        exact ih _ _ _ _ _ hf hP hD hS (lv_sub hl [1, 2, 0] rfl)
  unfold wp_X6_lays at hf
  refine lv_iconst (v := (0 : Int32)) hx hb dX6_lays_0 (by decide) ?_
  refine lv_istore_n (lv' := [(2, .int (0 : Int32)), (0, .ref q_t), (1, .int a1)]) hx hb dX6_lays_1 rfl hl (by decide) rfl (fun ls hl => ?_)
  obtain ⟨n, hf⟩ := hf
  refine L2 a1 _ ?_  n _ _ _ _ _ hf hP hD hS (lv_sub hl [1, 2, 0] rfl)
  intro v2_1 t_now_2 H locs ls hf hP hD hS hl
  refine lv_aload_n hx hb dX6_lays_25 rfl (lv_at hl 0 rfl) ?_
  refine va_get (D := D) (ci := 6) (v := .ref q_t_now) (C := RX6) (T := TX6) (N := 31) hx hb hts hinX6 hown hK hP 0 rfl rfl 2 (by decide) k13 (fun _ h9 => h9) rfl dX6_lays_26 ?_
  refine lv_iconst (v := (3 : Int32)) hx hb dX6_lays_29 (by decide) ?_
  refine lv_iconst (v := (0 : Int32)) hx hb dX6_lays_30 (by decide) ?_
  refine va_iast hx hb hK hP hD hS 1 0 rfl rfl (n := 176) (by unfold vp_in; decide) dX6_lays_31 (fun H locs hP hD hS => ?_)
  have hP : va_P D vwCl (wd_X6_lays cI cZ cB cG q_t q_t_now q_t_keys q_t_aside q_t_old q_t_saved q_t_input q_t_output q_t_live q_t_weight q_t_measure q_t_planned q_t_came q_t_rank t_thrown t_oldMany t_savedSet t_inputMany t_outputMany t_errorCode t_errorPosition t_top t_ahead t_round t_loudest t_textEnd t_kind t_from t_to t_value t_fault t_faultAt ((upd t_now_2 3 (0 : Int32)))) H := hP
  have hD : va_D A (wd_X6_lays cI cZ cB cG q_t q_t_now q_t_keys q_t_aside q_t_old q_t_saved q_t_input q_t_output q_t_live q_t_weight q_t_measure q_t_planned q_t_came q_t_rank t_thrown t_oldMany t_savedSet t_inputMany t_outputMany t_errorCode t_errorPosition t_top t_ahead t_round t_loudest t_textEnd t_kind t_from t_to t_value t_fault t_faultAt ((upd t_now_2 3 (0 : Int32)))) := hD
  refine lv_aload_n hx hb dX6_lays_32 rfl (lv_at hl 0 rfl) ?_
  refine lv_iload_n hx hb dX6_lays_33 rfl (lv_at hl 1 rfl) ?_
  have hPc := hP.sub (ws' := (wd_X6_hears cI cZ cB cG q_t q_t_now q_t_keys q_t_aside q_t_old q_t_saved q_t_input q_t_output q_t_live q_t_weight q_t_measure q_t_planned q_t_came q_t_rank t_thrown t_oldMany t_savedSet t_inputMany t_outputMany t_errorCode t_errorPosition t_top t_ahead t_round t_loudest t_textEnd t_kind t_from t_to t_value t_fault t_faultAt ((upd t_now_2 3 (0 : Int32))))) [0, 1] rfl
  have hDc := hD.sub (ws' := (wd_X6_hears cI cZ cB cG q_t q_t_now q_t_keys q_t_aside q_t_old q_t_saved q_t_input q_t_output q_t_live q_t_weight q_t_measure q_t_planned q_t_came q_t_rank t_thrown t_oldMany t_savedSet t_inputMany t_outputMany t_errorCode t_errorPosition t_top t_ahead t_round t_loudest t_textEnd t_kind t_from t_to t_value t_fault t_faultAt ((upd t_now_2 3 (0 : Int32))))) [0, 1] (by decide +kernel) rfl
  have hFc := va_free (wc := (wd_X6_hears cI cZ cB cG q_t q_t_now q_t_keys q_t_aside q_t_old q_t_saved q_t_input q_t_output q_t_live q_t_weight q_t_measure q_t_planned q_t_came q_t_rank t_thrown t_oldMany t_savedSet t_inputMany t_outputMany t_errorCode t_errorPosition t_top t_ahead t_round t_loudest t_textEnd t_kind t_from t_to t_value t_fault t_faultAt ((upd t_now_2 3 (0 : Int32))))) hD hS hA [0, 1] rfl
  refine va_callv (va_runV (As := [.int a1]) (rest := []) ⟨hx, hb, hml, hown, hts⟩ (c_X6_hears l D X cI cZ cB cG H.size q_t q_t_now q_t_keys q_t_aside q_t_old q_t_saved q_t_input q_t_output q_t_live q_t_weight q_t_measure q_t_planned q_t_came q_t_rank a1 t_thrown t_oldMany t_savedSet t_inputMany t_outputMany t_errorCode t_errorPosition t_top t_ahead t_round t_loudest t_textEnd t_kind t_from t_to t_value t_fault t_faultAt ((upd t_now_2 3 (0 : Int32))) _ hf) (cwV 1 hts gX6_lays_X6_hears rfl rfl rfl (by decide +kernel) ⟨Nat.le_of_ble_eq_true rfl, Nat.le_of_ble_eq_true rfl⟩) ⟨g_blind, va_recv hK hPc (ci := 6) (q0 := 0) rfl rfl, fun U hU hW => g_side hU hW hPc hK hDc hE hS hFc⟩ rfl rfl hl.1 rfl (lv_room (Nat.le_of_ble_eq_true rfl)) dX6_lays_34 ⟨Nat.zero_le _, Nat.zero_le _⟩) hS (fun q _ h => hFc q h) hFc (fun u t H1 locs ht hvm hw hB hz1 hk1 hS => ?_)
  obtain ⟨t_now_3, rfl⟩ : ∃ z, z = u := ⟨_, rfl⟩
  obtain ⟨hP1, hK1, hD1⟩ := hB
  rw [ht] at hP1
  obtain ⟨hP, hD⟩ := g_back (wc := (wd_X6_hears cI cZ cB cG q_t q_t_now q_t_keys q_t_aside q_t_old q_t_saved q_t_input q_t_output q_t_live q_t_weight q_t_measure q_t_planned q_t_came q_t_rank t_thrown t_oldMany t_savedSet t_inputMany t_outputMany t_errorCode t_errorPosition t_top t_ahead t_round t_loudest t_textEnd t_kind t_from t_to t_value t_fault t_faultAt ((upd t_now_2 3 (0 : Int32))))) (w1 := (wd_X6_hears cI cZ cB cG q_t q_t_now q_t_keys q_t_aside q_t_old q_t_saved q_t_input q_t_output q_t_live q_t_weight q_t_measure q_t_planned q_t_came q_t_rank t_thrown t_oldMany t_savedSet t_inputMany t_outputMany t_errorCode t_errorPosition t_top t_ahead t_round t_loudest t_textEnd t_kind t_from t_to t_value t_fault t_faultAt t_now_3)) hP hD [0, 1] rfl rfl hk1 hP1
  have hP : va_P D vwCl (wd_X6_lays cI cZ cB cG q_t q_t_now q_t_keys q_t_aside q_t_old q_t_saved q_t_input q_t_output q_t_live q_t_weight q_t_measure q_t_planned q_t_came q_t_rank t_thrown t_oldMany t_savedSet t_inputMany t_outputMany t_errorCode t_errorPosition t_top t_ahead t_round t_loudest t_textEnd t_kind t_from t_to t_value t_fault t_faultAt t_now_3) H1 := hP
  have hD : va_D A (wd_X6_lays cI cZ cB cG q_t q_t_now q_t_keys q_t_aside q_t_old q_t_saved q_t_input q_t_output q_t_live q_t_weight q_t_measure q_t_planned q_t_came q_t_rank t_thrown t_oldMany t_savedSet t_inputMany t_outputMany t_errorCode t_errorPosition t_top t_ahead t_round t_loudest t_textEnd t_kind t_from t_to t_value t_fault t_faultAt t_now_3) := hD
  have hf := hw
  generalize H1 = H at hP hS ⊢
  exact hret t_now_3 hf hP hD hS dX6_lays_37
abbrev wd_X6_between (cI cZ cB cG : ClassId) (q_t : Nat) (q_t_now : Nat) (q_t_keys : Nat) (q_t_aside : Nat) (q_t_old : Nat) (q_t_saved : Nat) (q_t_input : Nat) (q_t_output : Nat) (q_t_live : Nat) (q_t_weight : Nat) (q_t_measure : Nat) (q_t_planned : Nat) (q_t_came : Nat) (q_t_rank : Nat) (t_thrown : Int32) (t_oldMany : Int32) (t_savedSet : Int32) (t_inputMany : Int32) (t_outputMany : Int32) (t_errorCode : Int32) (t_errorPosition : Int32) (t_top : Int32) (t_ahead : Int32) (t_round : Int32) (t_loudest : Int32) (t_textEnd : Int32) (t_kind : Int32) (t_from : Int32) (t_to : Int32) (t_value : Int32) (t_fault : Int32) (t_faultAt : Int32) (t_now : (Nat → Int32)) : va_W := [(q_t, .inr (6, [.ref q_t_keys, .int t_thrown, .ref q_t_now, .ref q_t_aside, .ref q_t_old, .int t_oldMany, .ref q_t_saved, .int t_savedSet, .ref q_t_input, .int t_inputMany, .ref q_t_output, .int t_outputMany, .int t_errorCode, .int t_errorPosition, .ref q_t_live, .ref q_t_weight, .ref q_t_measure, .int t_top, .ref q_t_planned, .ref q_t_came, .ref q_t_rank, .int t_ahead, .int t_round, .int t_loudest, .int t_textEnd, .int t_kind, .int t_from, .int t_to, .int t_value, .int t_fault, .int t_faultAt])), (q_t_now, .inl (cI, 176, .inl t_now))]
def F_X6_between_2 (v1 : Int32) (v2 : Int32) (t_now : (Nat → Int32)) (post : Int32 → Prop) (K0 : Int32 → Prop) (rec : Int32 → Prop) (v3 : Int32) : Prop := (((t_now 1) ≤ v3 → (K0 v3)) ∧ (¬ ((t_now 1) ≤ v3) → (vp_in (((44 : Int32) + v3)) 176 ∧ ((¬ (t_now (((44 : Int32) + v3)).toNatClampNeg) = v1 → (rec ((v3 + (1 : Int32))))) ∧ ((t_now (((44 : Int32) + v3)).toNatClampNeg) = v1 → (vp_in (((105 : Int32) + v3)) 176 ∧ ((¬ (t_now (((105 : Int32) + v3)).toNatClampNeg) = v2 → (rec ((v3 + (1 : Int32))))) ∧ ((t_now (((105 : Int32) + v3)).toNatClampNeg) = v2 → (post v3)))))))))
def wp_X6_between (a1 : Int32) (a2 : Int32) (t_now : (Nat → Int32)) (post : Int32 → Prop) : Prop := (∃ n, fx1 (F_X6_between_2 a1 a2 t_now post (fun v3_1 => (post (-1 : Int32)))) n (0 : Int32))
abbrev rm_X6_between : Room := { frames := 1, cells := 0, slots := 0, locals := 80 }
theorem in_X6_between_X6 : ∀ w ∈ u_ws RX6 TX6 31, w ∈ wsX6_between := by decide +kernel
theorem k_X6_between_13 : Cond.fieldLink RX6 13 "ParityGameModel" "now" "[I" ∈ wsX6_between := by decide +kernel
set_option maxHeartbeats 40000000 in
set_option maxRecDepth 100000 in
theorem c_X6_between (l : Launch) (D : va_G) (X : gX) (cI cZ cB cG : ClassId) (sz : Nat) (q_t : Nat) (q_t_now : Nat) (q_t_keys : Nat) (q_t_aside : Nat) (q_t_old : Nat) (q_t_saved : Nat) (q_t_input : Nat) (q_t_output : Nat) (q_t_live : Nat) (q_t_weight : Nat) (q_t_measure : Nat) (q_t_planned : Nat) (q_t_came : Nat) (q_t_rank : Nat) (a1 : Int32) (a2 : Int32) (t_thrown : Int32) (t_oldMany : Int32) (t_savedSet : Int32) (t_inputMany : Int32) (t_outputMany : Int32) (t_errorCode : Int32) (t_errorPosition : Int32) (t_top : Int32) (t_ahead : Int32) (t_round : Int32) (t_loudest : Int32) (t_textEnd : Int32) (t_kind : Int32) (t_from : Int32) (t_to : Int32) (t_value : Int32) (t_fault : Int32) (t_faultAt : Int32) (t_now : (Nat → Int32)) (post : Int32 → Prop) (hf : wp_X6_between a1 a2 t_now post) : Met l yX6_between wsX6_between rm_X6_between (gP D X (gT cI cZ cB cG) sz [.ref q_t, .int a1, .int a2] (wd_X6_between cI cZ cB cG q_t q_t_now q_t_keys q_t_aside q_t_old q_t_saved q_t_input q_t_output q_t_live q_t_weight q_t_measure q_t_planned q_t_came q_t_rank t_thrown t_oldMany t_savedSet t_inputMany t_outputMany t_errorCode t_errorPosition t_top t_ahead t_round t_loudest t_textEnd t_kind t_from t_to t_value t_fault t_faultAt t_now)) (va_Qi (fun (r : Int32) (u : Unit) => post r) (fun u t => gB D (gT cI cZ cB cG) (va_A (wd_X6_between cI cZ cB cG q_t q_t_now q_t_keys q_t_aside q_t_old q_t_saved q_t_input q_t_output q_t_live q_t_weight q_t_measure q_t_planned q_t_came q_t_rank t_thrown t_oldMany t_savedSet t_inputMany t_outputMany t_errorCode t_errorPosition t_top t_ahead t_round t_loudest t_textEnd t_kind t_from t_to t_value t_fault t_faultAt t_now) sz) (wd_X6_between cI cZ cB cG q_t q_t_now q_t_keys q_t_aside q_t_old q_t_saved q_t_input q_t_output q_t_live q_t_weight q_t_measure q_t_planned q_t_came q_t_rank t_thrown t_oldMany t_savedSet t_inputMany t_outputMany t_errorCode t_errorPosition t_top t_ahead t_round t_loudest t_textEnd t_kind t_from t_to t_value t_fault t_faultAt t_now) t) (va_A (wd_X6_between cI cZ cB cG q_t q_t_now q_t_keys q_t_aside q_t_old q_t_saved q_t_input q_t_output q_t_live q_t_weight q_t_measure q_t_planned q_t_came q_t_rank t_thrown t_oldMany t_savedSet t_inputMany t_outputMany t_errorCode t_errorPosition t_top t_ahead t_round t_loudest t_textEnd t_kind t_from t_to t_value t_fault t_faultAt t_now) sz)) 0 0 (va_A (wd_X6_between cI cZ cB cG q_t q_t_now q_t_keys q_t_aside q_t_old q_t_saved q_t_input q_t_output q_t_live q_t_weight q_t_measure q_t_planned q_t_came q_t_rank t_thrown t_oldMany t_savedSet t_inputMany t_outputMany t_errorCode t_errorPosition t_top t_ahead t_round t_loudest t_textEnd t_kind t_from t_to t_value t_fault t_faultAt t_now) sz) := by
  refine g_ofWi (cc := cX6_between) (maxL := 4) (by decide +kernel) (Nat.le_of_ble_eq_true rfl) rfl ?_
  intro p e s m args below meth c A Q hx hb hml hown hts hA hK hE H hP hD hS ls hl hret
  have hinX6 := in_X6_between_X6
  have k13 := hts _ k_X6_between_13
  have hl : lv_has ls 4 [(0, .ref q_t), (1, .int a1), (2, .int a2)] := hl
  have L2 : ∀ (v1 : Int32) (v2 : Int32) (K0 : Int32 → Prop) (_ : ∀ (v3 : Int32) (H : Heap) (locs : List Loc) (ls : Array Slot), K0 v3 → va_P D vwCl (wd_X6_between cI cZ cB cG q_t q_t_now q_t_keys q_t_aside q_t_old q_t_saved q_t_input q_t_output q_t_live q_t_weight q_t_measure q_t_planned q_t_came q_t_rank t_thrown t_oldMany t_savedSet t_inputMany t_outputMany t_errorCode t_errorPosition t_top t_ahead t_round t_loudest t_textEnd t_kind t_from t_to t_value t_fault t_faultAt t_now) H → va_D A (wd_X6_between cI cZ cB cG q_t q_t_now q_t_keys q_t_aside q_t_old q_t_saved q_t_input q_t_output q_t_live q_t_weight q_t_measure q_t_planned q_t_came q_t_rank t_thrown t_oldMany t_savedSet t_inputMany t_outputMany t_errorCode t_errorPosition t_top t_ahead t_round t_loudest t_textEnd t_kind t_from t_to t_value t_fault t_faultAt t_now) → va_S A s.heap H locs → lv_has ls 4 [] → W p l e (rm_X6_between) s m args below meth c H locs 0 0 Q (F0 m 46 ls []))  (n : Nat) (v3 : Int32) (H : Heap) (locs : List Loc) (ls : Array Slot), fx1 (F_X6_between_2 v1 v2 t_now post K0) n v3 → va_P D vwCl (wd_X6_between cI cZ cB cG q_t q_t_now q_t_keys q_t_aside q_t_old q_t_saved q_t_input q_t_output q_t_live q_t_weight q_t_measure q_t_planned q_t_came q_t_rank t_thrown t_oldMany t_savedSet t_inputMany t_outputMany t_errorCode t_errorPosition t_top t_ahead t_round t_loudest t_textEnd t_kind t_from t_to t_value t_fault t_faultAt t_now) H → va_D A (wd_X6_between cI cZ cB cG q_t q_t_now q_t_keys q_t_aside q_t_old q_t_saved q_t_input q_t_output q_t_live q_t_weight q_t_measure q_t_planned q_t_came q_t_rank t_thrown t_oldMany t_savedSet t_inputMany t_outputMany t_errorCode t_errorPosition t_top t_ahead t_round t_loudest t_textEnd t_kind t_from t_to t_value t_fault t_faultAt t_now) → va_S A s.heap H locs → lv_has ls 4 [(0, .ref q_t), (1, .int v1), (2, .int v2), (3, .int v3)] → W p l e (rm_X6_between) s m args below meth c H locs 0 0 Q (F0 m 2 ls []) := by
    intro v1 v2 K0 hK0 n
    induction n with
    | zero => intro v3 H locs ls hf; exact (hf : False).elim
    | succ n ih =>
      intro v3 H locs ls hf hP hD hS hl
      have hf : F_X6_between_2 v1 v2 t_now post K0 (fx1 (F_X6_between_2 v1 v2 t_now post K0) n) v3 := hf
      unfold F_X6_between_2 at hf
      refine lv_iload_n hx hb dX6_between_2 rfl (lv_at hl 3 rfl) ?_
      refine lv_aload_n hx hb dX6_between_3 rfl (lv_at hl 0 rfl) ?_
      refine va_get (D := D) (ci := 6) (v := .ref q_t_now) (C := RX6) (T := TX6) (N := 31) hx hb hts hinX6 hown hK hP 0 rfl rfl 2 (by decide) k13 (fun _ h9 => h9) rfl dX6_between_4 ?_
      refine lv_iconst (v := (1 : Int32)) hx hb dX6_between_7 (by decide) ?_
      refine va_iald hx hb hK hP 1 0 rfl rfl (n := 176) (by unfold vp_in; decide) dX6_between_8 ?_
      refine lv_icmp_ge (tgt := 46) hx hb dX6_between_9 (by decide) (fun hc => ?_) (fun hc => ?_)
      · have hf := hf.1 hc
        exact hK0 _ _ _ _ hf hP hD hS (lv_sub hl [] rfl)
      · have hf := hf.2 hc
        refine lv_aload_n hx hb dX6_between_12 rfl (lv_at hl 0 rfl) ?_
        refine va_get (D := D) (ci := 6) (v := .ref q_t_now) (C := RX6) (T := TX6) (N := 31) hx hb hts hinX6 hown hK hP 0 rfl rfl 2 (by decide) k13 (fun _ h9 => h9) rfl dX6_between_13 ?_
        refine lv_bipush (v := (44 : Int32)) hx hb dX6_between_16 (by decide) ?_
        refine lv_iload_n hx hb dX6_between_18 rfl (lv_at hl 3 rfl) ?_
        refine lv_iadd hx hb dX6_between_19 ?_
        refine va_iald hx hb hK hP 1 0 rfl rfl (n := 176) hf.1 dX6_between_20 ?_
        have hf := hf.2
        refine lv_iload_n hx hb dX6_between_21 rfl (lv_at hl 1 rfl) ?_
        refine lv_icmp_ne (tgt := 40) hx hb dX6_between_22 (by decide) (fun hc => ?_) (fun hc => ?_)
        · have hf := hf.1 hc
          refine lv_iinc (v := (v3 + (1 : Int32))) (lv' := [(3, .int ((v3 + (1 : Int32)))), (0, .ref q_t), (1, .int v1), (2, .int v2)]) hx hb dX6_between_40 hl (k := 3) rfl rfl (by decide) rfl (fun ls hl => ?_)
          refine lv_goto (tgt := 2) hx hb dX6_between_43 (by decide) ?_
          exact ih _ _ _ _ hf hP hD hS (lv_sub hl [1, 2, 3, 0] rfl)
        · have hf := hf.2 hc
          refine lv_aload_n hx hb dX6_between_25 rfl (lv_at hl 0 rfl) ?_
          refine va_get (D := D) (ci := 6) (v := .ref q_t_now) (C := RX6) (T := TX6) (N := 31) hx hb hts hinX6 hown hK hP 0 rfl rfl 2 (by decide) k13 (fun _ h9 => h9) rfl dX6_between_26 ?_
          refine lv_bipush (v := (105 : Int32)) hx hb dX6_between_29 (by decide) ?_
          refine lv_iload_n hx hb dX6_between_31 rfl (lv_at hl 3 rfl) ?_
          refine lv_iadd hx hb dX6_between_32 ?_
          refine va_iald hx hb hK hP 1 0 rfl rfl (n := 176) hf.1 dX6_between_33 ?_
          have hf := hf.2
          refine lv_iload_n hx hb dX6_between_34 rfl (lv_at hl 2 rfl) ?_
          refine lv_icmp_ne (tgt := 40) hx hb dX6_between_35 (by decide) (fun hc => ?_) (fun hc => ?_)
          · have hf := hf.1 hc
            refine lv_iinc (v := (v3 + (1 : Int32))) (lv' := [(3, .int ((v3 + (1 : Int32)))), (0, .ref q_t), (1, .int v1), (2, .int v2)]) hx hb dX6_between_40 hl (k := 3) rfl rfl (by decide) rfl (fun ls hl => ?_)
            refine lv_goto (tgt := 2) hx hb dX6_between_43 (by decide) ?_
            exact ih _ _ _ _ hf hP hD hS (lv_sub hl [1, 2, 3, 0] rfl)
          · have hf := hf.2 hc
            refine lv_iload_n hx hb dX6_between_38 rfl (lv_at hl 3 rfl) ?_
            exact hret v3 () hf hP hD hS dX6_between_39
  unfold wp_X6_between at hf
  refine lv_iconst (v := (0 : Int32)) hx hb dX6_between_0 (by decide) ?_
  refine lv_istore_n (lv' := [(3, .int (0 : Int32)), (0, .ref q_t), (1, .int a1), (2, .int a2)]) hx hb dX6_between_1 rfl hl (by decide) rfl (fun ls hl => ?_)
  obtain ⟨n, hf⟩ := hf
  refine L2 a1 a2 _ ?_  n _ _ _ _ hf hP hD hS (lv_sub hl [1, 2, 3, 0] rfl)
  intro v3_1 H locs ls hf hP hD hS hl
  refine lv_iconst (v := (-1 : Int32)) hx hb dX6_between_46 (by decide) ?_
  exact hret (-1 : Int32) () hf hP hD hS dX6_between_47
abbrev wd_X6_weighs (cI cZ cB cG : ClassId) (q_t : Nat) (q_t_now : Nat) (q_t_weight : Nat) (q_t_keys : Nat) (q_t_aside : Nat) (q_t_old : Nat) (q_t_saved : Nat) (q_t_input : Nat) (q_t_output : Nat) (q_t_live : Nat) (q_t_measure : Nat) (q_t_planned : Nat) (q_t_came : Nat) (q_t_rank : Nat) (t_thrown : Int32) (t_oldMany : Int32) (t_savedSet : Int32) (t_inputMany : Int32) (t_outputMany : Int32) (t_errorCode : Int32) (t_errorPosition : Int32) (t_top : Int32) (t_ahead : Int32) (t_round : Int32) (t_loudest : Int32) (t_textEnd : Int32) (t_kind : Int32) (t_from : Int32) (t_to : Int32) (t_value : Int32) (t_fault : Int32) (t_faultAt : Int32) (t_now : (Nat → Int32)) (t_weight : (Nat → Int32)) : va_W := [(q_t, .inr (6, [.ref q_t_keys, .int t_thrown, .ref q_t_now, .ref q_t_aside, .ref q_t_old, .int t_oldMany, .ref q_t_saved, .int t_savedSet, .ref q_t_input, .int t_inputMany, .ref q_t_output, .int t_outputMany, .int t_errorCode, .int t_errorPosition, .ref q_t_live, .ref q_t_weight, .ref q_t_measure, .int t_top, .ref q_t_planned, .ref q_t_came, .ref q_t_rank, .int t_ahead, .int t_round, .int t_loudest, .int t_textEnd, .int t_kind, .int t_from, .int t_to, .int t_value, .int t_fault, .int t_faultAt])), (q_t_now, .inl (cI, 176, .inl t_now)), (q_t_weight, .inl (cI, 12, .inl t_weight))]
def F_X6_weighs_22 (v2 : Int32) (t_now : (Nat → Int32)) (K0 : Int32 → Int32 → Prop) (rec : Int32 → Int32 → Prop) (v3 : Int32) (v4 : Int32) : Prop := (((t_now 0) ≤ v4 → (K0 v3 v4)) ∧ (¬ ((t_now 0) ≤ v4) → (vp_in (((24 : Int32) + v4)) 176 ∧ ((¬ (t_now (((24 : Int32) + v4)).toNatClampNeg) = v2 → (rec ((v3 + (0 : Int32))) ((v4 + (1 : Int32))))) ∧ ((t_now (((24 : Int32) + v4)).toNatClampNeg) = v2 → (rec ((v3 + (1 : Int32))) ((v4 + (1 : Int32)))))))))
def F_X6_weighs_4 (t_now : (Nat → Int32)) (K0 : Int32 → Int32 → (Nat → Int32) → Prop) (rec : Int32 → Int32 → (Nat → Int32) → Prop) (v1 : Int32) (v2 : Int32) (t_weight : (Nat → Int32)) : Prop := (((10 : Int32) ≤ v2 → (K0 v1 v2 t_weight)) ∧ (¬ ((10 : Int32) ≤ v2) → (vp_in v2 12 ∧ (∃ n, fx2 (F_X6_weighs_22 v2 t_now (fun v3_1 v4_2 => (rec (v1 * v3_1) ((v2 + (2 : Int32))) (upd t_weight v2.toNatClampNeg v1)))) n (1 : Int32) (0 : Int32)))))
def wp_X6_weighs (t_now : (Nat → Int32)) (t_weight : (Nat → Int32)) (post : Int32 → (Nat → Int32) → Prop) : Prop := (∃ n, fx3 (F_X6_weighs_4 t_now (fun v1_3 v2_4 t_weight_5 => (post v1_3 t_weight_5))) n (1 : Int32) (1 : Int32) t_weight)
abbrev rm_X6_weighs : Room := { frames := 1, cells := 0, slots := 0, locals := 80 }
theorem in_X6_weighs_X6 : ∀ w ∈ u_ws RX6 TX6 31, w ∈ wsX6_weighs := by decide +kernel
theorem k_X6_weighs_13 : Cond.fieldLink RX6 13 "ParityGameModel" "now" "[I" ∈ wsX6_weighs := by decide +kernel
theorem k_X6_weighs_39 : Cond.fieldLink RX6 39 "ParityGameModel" "weight" "[I" ∈ wsX6_weighs := by decide +kernel
theorem k_X6_weighs_75 : Cond.fieldLink RX6 75 "ParityGameModel" "top" "I" ∈ wsX6_weighs := by decide +kernel
set_option maxHeartbeats 40000000 in
set_option maxRecDepth 100000 in
theorem c_X6_weighs (l : Launch) (D : va_G) (X : gX) (cI cZ cB cG : ClassId) (sz : Nat) (q_t : Nat) (q_t_now : Nat) (q_t_weight : Nat) (q_t_keys : Nat) (q_t_aside : Nat) (q_t_old : Nat) (q_t_saved : Nat) (q_t_input : Nat) (q_t_output : Nat) (q_t_live : Nat) (q_t_measure : Nat) (q_t_planned : Nat) (q_t_came : Nat) (q_t_rank : Nat) (t_thrown : Int32) (t_oldMany : Int32) (t_savedSet : Int32) (t_inputMany : Int32) (t_outputMany : Int32) (t_errorCode : Int32) (t_errorPosition : Int32) (t_top : Int32) (t_ahead : Int32) (t_round : Int32) (t_loudest : Int32) (t_textEnd : Int32) (t_kind : Int32) (t_from : Int32) (t_to : Int32) (t_value : Int32) (t_fault : Int32) (t_faultAt : Int32) (t_now : (Nat → Int32)) (t_weight : (Nat → Int32)) (post : Int32 → (Nat → Int32) → Prop) (hf : wp_X6_weighs t_now t_weight post) : Met l yX6_weighs wsX6_weighs rm_X6_weighs (gP D X (gT cI cZ cB cG) sz [.ref q_t] (wd_X6_weighs cI cZ cB cG q_t q_t_now q_t_weight q_t_keys q_t_aside q_t_old q_t_saved q_t_input q_t_output q_t_live q_t_measure q_t_planned q_t_came q_t_rank t_thrown t_oldMany t_savedSet t_inputMany t_outputMany t_errorCode t_errorPosition t_top t_ahead t_round t_loudest t_textEnd t_kind t_from t_to t_value t_fault t_faultAt t_now t_weight)) (va_Qv (fun (u : Int32 × (Nat → Int32)) => post u.1 u.2) (fun u t => gB D (gT cI cZ cB cG) (va_A (wd_X6_weighs cI cZ cB cG q_t q_t_now q_t_weight q_t_keys q_t_aside q_t_old q_t_saved q_t_input q_t_output q_t_live q_t_measure q_t_planned q_t_came q_t_rank t_thrown t_oldMany t_savedSet t_inputMany t_outputMany t_errorCode t_errorPosition t_top t_ahead t_round t_loudest t_textEnd t_kind t_from t_to t_value t_fault t_faultAt t_now t_weight) sz) (wd_X6_weighs cI cZ cB cG q_t q_t_now q_t_weight q_t_keys q_t_aside q_t_old q_t_saved q_t_input q_t_output q_t_live q_t_measure q_t_planned q_t_came q_t_rank t_thrown t_oldMany t_savedSet t_inputMany t_outputMany t_errorCode t_errorPosition u.1 t_ahead t_round t_loudest t_textEnd t_kind t_from t_to t_value t_fault t_faultAt t_now u.2) t) (va_A (wd_X6_weighs cI cZ cB cG q_t q_t_now q_t_weight q_t_keys q_t_aside q_t_old q_t_saved q_t_input q_t_output q_t_live q_t_measure q_t_planned q_t_came q_t_rank t_thrown t_oldMany t_savedSet t_inputMany t_outputMany t_errorCode t_errorPosition t_top t_ahead t_round t_loudest t_textEnd t_kind t_from t_to t_value t_fault t_faultAt t_now t_weight) sz)) 0 0 (va_A (wd_X6_weighs cI cZ cB cG q_t q_t_now q_t_weight q_t_keys q_t_aside q_t_old q_t_saved q_t_input q_t_output q_t_live q_t_measure q_t_planned q_t_came q_t_rank t_thrown t_oldMany t_savedSet t_inputMany t_outputMany t_errorCode t_errorPosition t_top t_ahead t_round t_loudest t_textEnd t_kind t_from t_to t_value t_fault t_faultAt t_now t_weight) sz) := by
  refine g_ofWv (cc := cX6_weighs) (maxL := 5) (by decide +kernel) (Nat.le_of_ble_eq_true rfl) rfl ?_
  intro p e s m args below meth c A Q hx hb hml hown hts hA hK hE H hP hD hS ls hl hret
  have hinX6 := in_X6_weighs_X6
  have k13 := hts _ k_X6_weighs_13
  have k39 := hts _ k_X6_weighs_39
  have k75 := hts _ k_X6_weighs_75
  have hl : lv_has ls 5 [(0, .ref q_t)] := hl
  have L22 : ∀ (v1 : Int32) (v2 : Int32) (t_top : Int32) (t_weight : (Nat → Int32)) (K0 : Int32 → Int32 → Prop) (_ : ∀ (v3 : Int32) (v4 : Int32) (H : Heap) (locs : List Loc) (ls : Array Slot), K0 v3 v4 → va_P D vwCl (wd_X6_weighs cI cZ cB cG q_t q_t_now q_t_weight q_t_keys q_t_aside q_t_old q_t_saved q_t_input q_t_output q_t_live q_t_measure q_t_planned q_t_came q_t_rank t_thrown t_oldMany t_savedSet t_inputMany t_outputMany t_errorCode t_errorPosition t_top t_ahead t_round t_loudest t_textEnd t_kind t_from t_to t_value t_fault t_faultAt t_now t_weight) H → va_D A (wd_X6_weighs cI cZ cB cG q_t q_t_now q_t_weight q_t_keys q_t_aside q_t_old q_t_saved q_t_input q_t_output q_t_live q_t_measure q_t_planned q_t_came q_t_rank t_thrown t_oldMany t_savedSet t_inputMany t_outputMany t_errorCode t_errorPosition t_top t_ahead t_round t_loudest t_textEnd t_kind t_from t_to t_value t_fault t_faultAt t_now t_weight) → va_S A s.heap H locs → lv_has ls 5 [(0, .ref q_t), (1, .int v1), (2, .int v2), (3, .int v3)] → W p l e (rm_X6_weighs) s m args below meth c H locs 0 0 Q (F0 m 61 ls []))  (n : Nat) (v3 : Int32) (v4 : Int32) (H : Heap) (locs : List Loc) (ls : Array Slot), fx2 (F_X6_weighs_22 v2 t_now K0) n v3 v4 → va_P D vwCl (wd_X6_weighs cI cZ cB cG q_t q_t_now q_t_weight q_t_keys q_t_aside q_t_old q_t_saved q_t_input q_t_output q_t_live q_t_measure q_t_planned q_t_came q_t_rank t_thrown t_oldMany t_savedSet t_inputMany t_outputMany t_errorCode t_errorPosition t_top t_ahead t_round t_loudest t_textEnd t_kind t_from t_to t_value t_fault t_faultAt t_now t_weight) H → va_D A (wd_X6_weighs cI cZ cB cG q_t q_t_now q_t_weight q_t_keys q_t_aside q_t_old q_t_saved q_t_input q_t_output q_t_live q_t_measure q_t_planned q_t_came q_t_rank t_thrown t_oldMany t_savedSet t_inputMany t_outputMany t_errorCode t_errorPosition t_top t_ahead t_round t_loudest t_textEnd t_kind t_from t_to t_value t_fault t_faultAt t_now t_weight) → va_S A s.heap H locs → lv_has ls 5 [(0, .ref q_t), (1, .int v1), (2, .int v2), (3, .int v3), (4, .int v4)] → W p l e (rm_X6_weighs) s m args below meth c H locs 0 0 Q (F0 m 22 ls []) := by
    intro v1 v2 t_top t_weight K0 hK0 n
    induction n with
    | zero => intro v3 v4 H locs ls hf; exact (hf : False).elim
    | succ n ih =>
      intro v3 v4 H locs ls hf hP hD hS hl
      have hf : F_X6_weighs_22 v2 t_now K0 (fx2 (F_X6_weighs_22 v2 t_now K0) n) v3 v4 := hf
      unfold F_X6_weighs_22 at hf
      refine lv_iload hx hb dX6_weighs_22 (lv_at hl 4 rfl) ?_
      refine lv_aload_n hx hb dX6_weighs_24 rfl (lv_at hl 0 rfl) ?_
      refine va_get (D := D) (ci := 6) (v := .ref q_t_now) (C := RX6) (T := TX6) (N := 31) hx hb hts hinX6 hown hK hP 0 rfl rfl 2 (by decide) k13 (fun _ h9 => h9) rfl dX6_weighs_25 ?_
      refine lv_iconst (v := (0 : Int32)) hx hb dX6_weighs_28 (by decide) ?_
      refine va_iald hx hb hK hP 1 0 rfl rfl (n := 176) (by unfold vp_in; decide) dX6_weighs_29 ?_
      refine lv_icmp_ge (tgt := 61) hx hb dX6_weighs_30 (by decide) (fun hc => ?_) (fun hc => ?_)
      · have hf := hf.1 hc
        exact hK0 _ _ _ _ _ hf hP hD hS (lv_sub hl [0, 1, 2, 3] rfl)
      · have hf := hf.2 hc
        refine lv_iload_n hx hb dX6_weighs_33 rfl (lv_at hl 3 rfl) ?_
        refine lv_aload_n hx hb dX6_weighs_34 rfl (lv_at hl 0 rfl) ?_
        refine va_get (D := D) (ci := 6) (v := .ref q_t_now) (C := RX6) (T := TX6) (N := 31) hx hb hts hinX6 hown hK hP 0 rfl rfl 2 (by decide) k13 (fun _ h9 => h9) rfl dX6_weighs_35 ?_
        refine lv_bipush (v := (24 : Int32)) hx hb dX6_weighs_38 (by decide) ?_
        refine lv_iload hx hb dX6_weighs_40 (lv_at hl 4 rfl) ?_
        refine lv_iadd hx hb dX6_weighs_42 ?_
        refine va_iald hx hb hK hP 1 0 rfl rfl (n := 176) hf.1 dX6_weighs_43 ?_
        have hf := hf.2
        refine lv_iload_n hx hb dX6_weighs_44 rfl (lv_at hl 2 rfl) ?_
        refine lv_icmp_ne (tgt := 52) hx hb dX6_weighs_45 (by decide) (fun hc => ?_) (fun hc => ?_)
        · have hf := hf.1 hc
          refine lv_iconst (v := (0 : Int32)) hx hb dX6_weighs_52 (by decide) ?_
          refine lv_iadd hx hb dX6_weighs_53 ?_
          refine lv_istore_n (lv' := [(3, .int ((v3 + (0 : Int32)))), (0, .ref q_t), (1, .int v1), (2, .int v2), (4, .int v4)]) hx hb dX6_weighs_54 rfl hl (by decide) rfl (fun ls hl => ?_)
          refine lv_iinc (v := (v4 + (1 : Int32))) (lv' := [(4, .int ((v4 + (1 : Int32)))), (3, .int ((v3 + (0 : Int32)))), (0, .ref q_t), (1, .int v1), (2, .int v2)]) hx hb dX6_weighs_55 hl (k := 4) rfl rfl (by decide) rfl (fun ls hl => ?_)
          refine lv_goto (tgt := 22) hx hb dX6_weighs_58 (by decide) ?_
          exact ih _ _ _ _ _ hf hP hD hS (lv_sub hl [2, 3, 4, 1, 0] rfl)
        · have hf := hf.2 hc
          refine lv_iconst (v := (1 : Int32)) hx hb dX6_weighs_48 (by decide) ?_
          refine lv_goto (tgt := 53) hx hb dX6_weighs_49 (by decide) ?_
          refine lv_iadd hx hb dX6_weighs_53 ?_
          refine lv_istore_n (lv' := [(3, .int ((v3 + (1 : Int32)))), (0, .ref q_t), (1, .int v1), (2, .int v2), (4, .int v4)]) hx hb dX6_weighs_54 rfl hl (by decide) rfl (fun ls hl => ?_)
          refine lv_iinc (v := (v4 + (1 : Int32))) (lv' := [(4, .int ((v4 + (1 : Int32)))), (3, .int ((v3 + (1 : Int32)))), (0, .ref q_t), (1, .int v1), (2, .int v2)]) hx hb dX6_weighs_55 hl (k := 4) rfl rfl (by decide) rfl (fun ls hl => ?_)
          refine lv_goto (tgt := 22) hx hb dX6_weighs_58 (by decide) ?_
          exact ih _ _ _ _ _ hf hP hD hS (lv_sub hl [2, 3, 4, 1, 0] rfl)
  have L4 : ∀ (t_top : Int32) (K0 : Int32 → Int32 → (Nat → Int32) → Prop) (_ : ∀ (v1 : Int32) (v2 : Int32) (t_weight : (Nat → Int32)) (H : Heap) (locs : List Loc) (ls : Array Slot), K0 v1 v2 t_weight → va_P D vwCl (wd_X6_weighs cI cZ cB cG q_t q_t_now q_t_weight q_t_keys q_t_aside q_t_old q_t_saved q_t_input q_t_output q_t_live q_t_measure q_t_planned q_t_came q_t_rank t_thrown t_oldMany t_savedSet t_inputMany t_outputMany t_errorCode t_errorPosition t_top t_ahead t_round t_loudest t_textEnd t_kind t_from t_to t_value t_fault t_faultAt t_now t_weight) H → va_D A (wd_X6_weighs cI cZ cB cG q_t q_t_now q_t_weight q_t_keys q_t_aside q_t_old q_t_saved q_t_input q_t_output q_t_live q_t_measure q_t_planned q_t_came q_t_rank t_thrown t_oldMany t_savedSet t_inputMany t_outputMany t_errorCode t_errorPosition t_top t_ahead t_round t_loudest t_textEnd t_kind t_from t_to t_value t_fault t_faultAt t_now t_weight) → va_S A s.heap H locs → lv_has ls 5 [(0, .ref q_t), (1, .int v1)] → W p l e (rm_X6_weighs) s m args below meth c H locs 0 0 Q (F0 m 71 ls []))  (n : Nat) (v1 : Int32) (v2 : Int32) (t_weight : (Nat → Int32)) (H : Heap) (locs : List Loc) (ls : Array Slot), fx3 (F_X6_weighs_4 t_now K0) n v1 v2 t_weight → va_P D vwCl (wd_X6_weighs cI cZ cB cG q_t q_t_now q_t_weight q_t_keys q_t_aside q_t_old q_t_saved q_t_input q_t_output q_t_live q_t_measure q_t_planned q_t_came q_t_rank t_thrown t_oldMany t_savedSet t_inputMany t_outputMany t_errorCode t_errorPosition t_top t_ahead t_round t_loudest t_textEnd t_kind t_from t_to t_value t_fault t_faultAt t_now t_weight) H → va_D A (wd_X6_weighs cI cZ cB cG q_t q_t_now q_t_weight q_t_keys q_t_aside q_t_old q_t_saved q_t_input q_t_output q_t_live q_t_measure q_t_planned q_t_came q_t_rank t_thrown t_oldMany t_savedSet t_inputMany t_outputMany t_errorCode t_errorPosition t_top t_ahead t_round t_loudest t_textEnd t_kind t_from t_to t_value t_fault t_faultAt t_now t_weight) → va_S A s.heap H locs → lv_has ls 5 [(0, .ref q_t), (1, .int v1), (2, .int v2)] → W p l e (rm_X6_weighs) s m args below meth c H locs 0 0 Q (F0 m 4 ls []) := by
    intro t_top K0 hK0 n
    induction n with
    | zero => intro v1 v2 t_weight H locs ls hf; exact (hf : False).elim
    | succ n ih =>
      intro v1 v2 t_weight H locs ls hf hP hD hS hl
      have hf : F_X6_weighs_4 t_now K0 (fx3 (F_X6_weighs_4 t_now K0) n) v1 v2 t_weight := hf
      unfold F_X6_weighs_4 at hf
      refine lv_iload_n hx hb dX6_weighs_4 rfl (lv_at hl 2 rfl) ?_
      refine lv_bipush (v := (10 : Int32)) hx hb dX6_weighs_5 (by decide) ?_
      refine lv_icmp_ge (tgt := 71) hx hb dX6_weighs_7 (by decide) (fun hc => ?_) (fun hc => ?_)
      · have hf := hf.1 hc
        exact hK0 _ _ _ _ _ _ hf hP hD hS (lv_sub hl [0, 1] rfl)
      · have hf := hf.2 hc
        refine lv_aload_n hx hb dX6_weighs_10 rfl (lv_at hl 0 rfl) ?_
        refine va_get (D := D) (ci := 6) (v := .ref q_t_weight) (C := RX6) (T := TX6) (N := 31) hx hb hts hinX6 hown hK hP 0 rfl rfl 15 (by decide) k39 (fun _ h9 => h9) rfl dX6_weighs_11 ?_
        refine lv_iload_n hx hb dX6_weighs_14 rfl (lv_at hl 2 rfl) ?_
        refine lv_iload_n hx hb dX6_weighs_15 rfl (lv_at hl 1 rfl) ?_
        refine va_iast hx hb hK hP hD hS 2 0 rfl rfl (n := 12) hf.1 dX6_weighs_16 (fun H locs hP hD hS => ?_)
        have hf := hf.2
        have hP : va_P D vwCl (wd_X6_weighs cI cZ cB cG q_t q_t_now q_t_weight q_t_keys q_t_aside q_t_old q_t_saved q_t_input q_t_output q_t_live q_t_measure q_t_planned q_t_came q_t_rank t_thrown t_oldMany t_savedSet t_inputMany t_outputMany t_errorCode t_errorPosition t_top t_ahead t_round t_loudest t_textEnd t_kind t_from t_to t_value t_fault t_faultAt t_now (upd t_weight v2.toNatClampNeg v1)) H := hP
        have hD : va_D A (wd_X6_weighs cI cZ cB cG q_t q_t_now q_t_weight q_t_keys q_t_aside q_t_old q_t_saved q_t_input q_t_output q_t_live q_t_measure q_t_planned q_t_came q_t_rank t_thrown t_oldMany t_savedSet t_inputMany t_outputMany t_errorCode t_errorPosition t_top t_ahead t_round t_loudest t_textEnd t_kind t_from t_to t_value t_fault t_faultAt t_now (upd t_weight v2.toNatClampNeg v1)) := hD
        refine lv_iconst (v := (1 : Int32)) hx hb dX6_weighs_17 (by decide) ?_
        refine lv_istore_n (lv' := [(3, .int (1 : Int32)), (0, .ref q_t), (1, .int v1), (2, .int v2)]) hx hb dX6_weighs_18 rfl hl (by decide) rfl (fun ls hl => ?_)
        refine lv_iconst (v := (0 : Int32)) hx hb dX6_weighs_19 (by decide) ?_
        refine lv_istore (lv' := [(4, .int (0 : Int32)), (3, .int (1 : Int32)), (0, .ref q_t), (1, .int v1), (2, .int v2)]) hx hb dX6_weighs_20 hl (by decide) rfl (fun ls hl => ?_)
        obtain ⟨n, hf⟩ := hf
        refine L22 v1 v2 t_top (upd t_weight v2.toNatClampNeg v1) _ ?_  n _ _ _ _ _ hf hP hD hS (lv_sub hl [2, 3, 4, 1, 0] rfl)
        intro v3_1 v4_2 H locs ls hf hP hD hS hl
        refine lv_iload_n hx hb dX6_weighs_61 rfl (lv_at hl 1 rfl) ?_
        refine lv_iload_n hx hb dX6_weighs_62 rfl (lv_at hl 3 rfl) ?_
        refine lv_imul hx hb dX6_weighs_63 ?_
        refine lv_istore_n (lv' := [(1, .int (v1 * v3_1)), (0, .ref q_t), (2, .int v2), (3, .int v3_1)]) hx hb dX6_weighs_64 rfl hl (by decide) rfl (fun ls hl => ?_)
        refine lv_iinc (v := (v2 + (2 : Int32))) (lv' := [(2, .int ((v2 + (2 : Int32)))), (1, .int (v1 * v3_1)), (0, .ref q_t), (3, .int v3_1)]) hx hb dX6_weighs_65 hl (k := 2) rfl rfl (by decide) rfl (fun ls hl => ?_)
        refine lv_goto (tgt := 4) hx hb dX6_weighs_68 (by decide) ?_
        exact ih _ _ _ _ _ _ hf hP hD hS (lv_sub hl [2, 1, 0] rfl)
  unfold wp_X6_weighs at hf
  refine lv_iconst (v := (1 : Int32)) hx hb dX6_weighs_0 (by decide) ?_
  refine lv_istore_n (lv' := [(1, .int (1 : Int32)), (0, .ref q_t)]) hx hb dX6_weighs_1 rfl hl (by decide) rfl (fun ls hl => ?_)
  refine lv_iconst (v := (1 : Int32)) hx hb dX6_weighs_2 (by decide) ?_
  refine lv_istore_n (lv' := [(2, .int (1 : Int32)), (1, .int (1 : Int32)), (0, .ref q_t)]) hx hb dX6_weighs_3 rfl hl (by decide) rfl (fun ls hl => ?_)
  obtain ⟨n, hf⟩ := hf
  refine L4 t_top _ ?_  n _ _ _ _ _ _ hf hP hD hS (lv_sub hl [2, 1, 0] rfl)
  intro v1_3 v2_4 t_weight_5 H locs ls hf hP hD hS hl
  refine lv_aload_n hx hb dX6_weighs_71 rfl (lv_at hl 0 rfl) ?_
  refine lv_iload_n hx hb dX6_weighs_72 rfl (lv_at hl 1 rfl) ?_
  refine va_put (D := D) (ci := 6) (v := .int v1_3) (ty := .int) (C := RX6) (T := TX6) (N := 31) hx hb hts hinX6 tyX6 tyX6_ok nmX6 hown hK hP hD hS 0 rfl rfl 17 (by decide) k75 (fun _ h9 => h9) rfl (by decide +kernel) rfl rfl (Nat.le_of_ble_eq_true rfl) dX6_weighs_73 (fun H locs hP hD hS => ?_)
  have hP : va_P D vwCl (wd_X6_weighs cI cZ cB cG q_t q_t_now q_t_weight q_t_keys q_t_aside q_t_old q_t_saved q_t_input q_t_output q_t_live q_t_measure q_t_planned q_t_came q_t_rank t_thrown t_oldMany t_savedSet t_inputMany t_outputMany t_errorCode t_errorPosition v1_3 t_ahead t_round t_loudest t_textEnd t_kind t_from t_to t_value t_fault t_faultAt t_now t_weight_5) H := hP
  have hD : va_D A (wd_X6_weighs cI cZ cB cG q_t q_t_now q_t_weight q_t_keys q_t_aside q_t_old q_t_saved q_t_input q_t_output q_t_live q_t_measure q_t_planned q_t_came q_t_rank t_thrown t_oldMany t_savedSet t_inputMany t_outputMany t_errorCode t_errorPosition v1_3 t_ahead t_round t_loudest t_textEnd t_kind t_from t_to t_value t_fault t_faultAt t_now t_weight_5) := hD
  exact hret (v1_3, t_weight_5) hf hP hD hS dX6_weighs_76
abbrev wd_X6_over (cI cZ cB cG : ClassId) (q_t : Nat) (q_t_weight : Nat) (q_t_keys : Nat) (q_t_now : Nat) (q_t_aside : Nat) (q_t_old : Nat) (q_t_saved : Nat) (q_t_input : Nat) (q_t_output : Nat) (q_t_live : Nat) (q_t_measure : Nat) (q_t_planned : Nat) (q_t_came : Nat) (q_t_rank : Nat) (t_thrown : Int32) (t_oldMany : Int32) (t_savedSet : Int32) (t_inputMany : Int32) (t_outputMany : Int32) (t_errorCode : Int32) (t_errorPosition : Int32) (t_top : Int32) (t_ahead : Int32) (t_round : Int32) (t_loudest : Int32) (t_textEnd : Int32) (t_kind : Int32) (t_from : Int32) (t_to : Int32) (t_value : Int32) (t_fault : Int32) (t_faultAt : Int32) (t_weight : (Nat → Int32)) : va_W := [(q_t, .inr (6, [.ref q_t_keys, .int t_thrown, .ref q_t_now, .ref q_t_aside, .ref q_t_old, .int t_oldMany, .ref q_t_saved, .int t_savedSet, .ref q_t_input, .int t_inputMany, .ref q_t_output, .int t_outputMany, .int t_errorCode, .int t_errorPosition, .ref q_t_live, .ref q_t_weight, .ref q_t_measure, .int t_top, .ref q_t_planned, .ref q_t_came, .ref q_t_rank, .int t_ahead, .int t_round, .int t_loudest, .int t_textEnd, .int t_kind, .int t_from, .int t_to, .int t_value, .int t_fault, .int t_faultAt])), (q_t_weight, .inl (cI, 12, .inl t_weight))]
def wp_X6_over (a1 : Int32) (a2 : Int32) (t_top : Int32) (t_weight : (Nat → Int32)) (post : Int32 → Prop) : Prop := ((¬ a2 = t_top → ((¬ (a1 - a1 / (2 : Int32) * (2 : Int32)) = (0 : Int32) → (vp_in a1 12 ∧ ((¬ (t_weight a1.toNatClampNeg) = 0) ∧ (vp_in a1 12 ∧ ((((a2 - (a2 - a2 / (t_weight a1.toNatClampNeg) * (t_weight a1.toNatClampNeg))) + (t_weight a1.toNatClampNeg)) ≤ t_top → (post (((a2 - (a2 - a2 / (t_weight a1.toNatClampNeg) * (t_weight a1.toNatClampNeg))) + (t_weight a1.toNatClampNeg))))) ∧ (¬ (((a2 - (a2 - a2 / (t_weight a1.toNatClampNeg) * (t_weight a1.toNatClampNeg))) + (t_weight a1.toNatClampNeg)) ≤ t_top) → (post t_top))))))) ∧ ((a1 - a1 / (2 : Int32) * (2 : Int32)) = (0 : Int32) → (((a1 + (1 : Int32)) ≤ (9 : Int32) → (vp_in ((a1 + (1 : Int32))) 12 ∧ ((¬ (t_weight ((a1 + (1 : Int32))).toNatClampNeg) = 0) ∧ (post ((a2 - (a2 - a2 / (t_weight ((a1 + (1 : Int32))).toNatClampNeg) * (t_weight ((a1 + (1 : Int32))).toNatClampNeg)))))))) ∧ (¬ ((a1 + (1 : Int32)) ≤ (9 : Int32)) → (post (0 : Int32))))))) ∧ (a2 = t_top → (post t_top)))
abbrev rm_X6_over : Room := { frames := 1, cells := 0, slots := 0, locals := 80 }
theorem in_X6_over_X6 : ∀ w ∈ u_ws RX6 TX6 31, w ∈ wsX6_over := by decide +kernel
theorem k_X6_over_39 : Cond.fieldLink RX6 39 "ParityGameModel" "weight" "[I" ∈ wsX6_over := by decide +kernel
theorem k_X6_over_75 : Cond.fieldLink RX6 75 "ParityGameModel" "top" "I" ∈ wsX6_over := by decide +kernel
set_option maxHeartbeats 40000000 in
set_option maxRecDepth 100000 in
theorem c_X6_over (l : Launch) (D : va_G) (X : gX) (cI cZ cB cG : ClassId) (sz : Nat) (q_t : Nat) (q_t_weight : Nat) (q_t_keys : Nat) (q_t_now : Nat) (q_t_aside : Nat) (q_t_old : Nat) (q_t_saved : Nat) (q_t_input : Nat) (q_t_output : Nat) (q_t_live : Nat) (q_t_measure : Nat) (q_t_planned : Nat) (q_t_came : Nat) (q_t_rank : Nat) (a1 : Int32) (a2 : Int32) (t_thrown : Int32) (t_oldMany : Int32) (t_savedSet : Int32) (t_inputMany : Int32) (t_outputMany : Int32) (t_errorCode : Int32) (t_errorPosition : Int32) (t_top : Int32) (t_ahead : Int32) (t_round : Int32) (t_loudest : Int32) (t_textEnd : Int32) (t_kind : Int32) (t_from : Int32) (t_to : Int32) (t_value : Int32) (t_fault : Int32) (t_faultAt : Int32) (t_weight : (Nat → Int32)) (post : Int32 → Prop) (hf : wp_X6_over a1 a2 t_top t_weight post) : Met l yX6_over wsX6_over rm_X6_over (gP D X (gT cI cZ cB cG) sz [.ref q_t, .int a1, .int a2] (wd_X6_over cI cZ cB cG q_t q_t_weight q_t_keys q_t_now q_t_aside q_t_old q_t_saved q_t_input q_t_output q_t_live q_t_measure q_t_planned q_t_came q_t_rank t_thrown t_oldMany t_savedSet t_inputMany t_outputMany t_errorCode t_errorPosition t_top t_ahead t_round t_loudest t_textEnd t_kind t_from t_to t_value t_fault t_faultAt t_weight)) (va_Qi (fun (r : Int32) (u : Unit) => post r) (fun u t => gB D (gT cI cZ cB cG) (va_A (wd_X6_over cI cZ cB cG q_t q_t_weight q_t_keys q_t_now q_t_aside q_t_old q_t_saved q_t_input q_t_output q_t_live q_t_measure q_t_planned q_t_came q_t_rank t_thrown t_oldMany t_savedSet t_inputMany t_outputMany t_errorCode t_errorPosition t_top t_ahead t_round t_loudest t_textEnd t_kind t_from t_to t_value t_fault t_faultAt t_weight) sz) (wd_X6_over cI cZ cB cG q_t q_t_weight q_t_keys q_t_now q_t_aside q_t_old q_t_saved q_t_input q_t_output q_t_live q_t_measure q_t_planned q_t_came q_t_rank t_thrown t_oldMany t_savedSet t_inputMany t_outputMany t_errorCode t_errorPosition t_top t_ahead t_round t_loudest t_textEnd t_kind t_from t_to t_value t_fault t_faultAt t_weight) t) (va_A (wd_X6_over cI cZ cB cG q_t q_t_weight q_t_keys q_t_now q_t_aside q_t_old q_t_saved q_t_input q_t_output q_t_live q_t_measure q_t_planned q_t_came q_t_rank t_thrown t_oldMany t_savedSet t_inputMany t_outputMany t_errorCode t_errorPosition t_top t_ahead t_round t_loudest t_textEnd t_kind t_from t_to t_value t_fault t_faultAt t_weight) sz)) 0 0 (va_A (wd_X6_over cI cZ cB cG q_t q_t_weight q_t_keys q_t_now q_t_aside q_t_old q_t_saved q_t_input q_t_output q_t_live q_t_measure q_t_planned q_t_came q_t_rank t_thrown t_oldMany t_savedSet t_inputMany t_outputMany t_errorCode t_errorPosition t_top t_ahead t_round t_loudest t_textEnd t_kind t_from t_to t_value t_fault t_faultAt t_weight) sz) := by
  refine g_ofWi (cc := cX6_over) (maxL := 4) (by decide +kernel) (Nat.le_of_ble_eq_true rfl) rfl ?_
  intro p e s m args below meth c A Q hx hb hml hown hts hA hK hE H hP hD hS ls hl hret
  have hinX6 := in_X6_over_X6
  have k39 := hts _ k_X6_over_39
  have k75 := hts _ k_X6_over_75
  have hl : lv_has ls 4 [(0, .ref q_t), (1, .int a1), (2, .int a2)] := hl
  unfold wp_X6_over at hf
  refine lv_iload_n hx hb dX6_over_0 rfl (lv_at hl 2 rfl) ?_
  refine lv_aload_n hx hb dX6_over_1 rfl (lv_at hl 0 rfl) ?_
  refine va_get (D := D) (ci := 6) (v := .int t_top) (C := RX6) (T := TX6) (N := 31) hx hb hts hinX6 hown hK hP 0 rfl rfl 17 (by decide) k75 (fun _ h9 => h9) rfl dX6_over_2 ?_
  refine lv_icmp_ne (tgt := 13) hx hb dX6_over_5 (by decide) (fun hc => ?_) (fun hc => ?_)
  · have hf := hf.1 hc
    refine lv_iload_n hx hb dX6_over_13 rfl (lv_at hl 1 rfl) ?_
    refine lv_iconst (v := (2 : Int32)) hx hb dX6_over_14 (by decide) ?_
    refine lv_irem hx hb dX6_over_15 (by decide) ?_
    refine lv_if_ne (tgt := 44) hx hb dX6_over_16 (by decide) (fun hc => ?_) (fun hc => ?_)
    · have hf := hf.1 hc
      refine lv_iload_n hx hb dX6_over_44 rfl (lv_at hl 2 rfl) ?_
      refine lv_iload_n hx hb dX6_over_45 rfl (lv_at hl 2 rfl) ?_
      refine lv_aload_n hx hb dX6_over_46 rfl (lv_at hl 0 rfl) ?_
      refine va_get (D := D) (ci := 6) (v := .ref q_t_weight) (C := RX6) (T := TX6) (N := 31) hx hb hts hinX6 hown hK hP 0 rfl rfl 15 (by decide) k39 (fun _ h9 => h9) rfl dX6_over_47 ?_
      refine lv_iload_n hx hb dX6_over_50 rfl (lv_at hl 1 rfl) ?_
      refine va_iald hx hb hK hP 1 0 rfl rfl (n := 12) hf.1 dX6_over_51 ?_
      have hf := hf.2
      refine lv_irem hx hb dX6_over_52 hf.1 ?_
      have hf := hf.2
      refine lv_isub hx hb dX6_over_53 ?_
      refine lv_aload_n hx hb dX6_over_54 rfl (lv_at hl 0 rfl) ?_
      refine va_get (D := D) (ci := 6) (v := .ref q_t_weight) (C := RX6) (T := TX6) (N := 31) hx hb hts hinX6 hown hK hP 0 rfl rfl 15 (by decide) k39 (fun _ h9 => h9) rfl dX6_over_55 ?_
      refine lv_iload_n hx hb dX6_over_58 rfl (lv_at hl 1 rfl) ?_
      refine va_iald hx hb hK hP 1 0 rfl rfl (n := 12) hf.1 dX6_over_59 ?_
      have hf := hf.2
      refine lv_iadd hx hb dX6_over_60 ?_
      refine lv_istore_n (lv' := [(3, .int (((a2 - (a2 - a2 / (t_weight a1.toNatClampNeg) * (t_weight a1.toNatClampNeg))) + (t_weight a1.toNatClampNeg)))), (0, .ref q_t), (1, .int a1), (2, .int a2)]) hx hb dX6_over_61 rfl hl (by decide) rfl (fun ls hl => ?_)
      refine lv_iload_n hx hb dX6_over_62 rfl (lv_at hl 0 rfl) ?_
      refine lv_aload_n hx hb dX6_over_63 rfl (lv_at hl 1 rfl) ?_
      refine va_get (D := D) (ci := 6) (v := .int t_top) (C := RX6) (T := TX6) (N := 31) hx hb hts hinX6 hown hK hP 0 rfl rfl 17 (by decide) k75 (fun _ h9 => h9) rfl dX6_over_64 ?_
      refine lv_icmp_le (tgt := 77) hx hb dX6_over_67 (by decide) (fun hc => ?_) (fun hc => ?_)
      · have hf := hf.1 hc
        refine lv_iload_n hx hb dX6_over_77 rfl (lv_at hl 0 rfl) ?_
        exact hret (((a2 - (a2 - a2 / (t_weight a1.toNatClampNeg) * (t_weight a1.toNatClampNeg))) + (t_weight a1.toNatClampNeg))) () hf hP hD hS dX6_over_78
      · have hf := hf.2 hc
        refine lv_aload_n hx hb dX6_over_70 rfl (lv_at hl 1 rfl) ?_
        refine va_get (D := D) (ci := 6) (v := .int t_top) (C := RX6) (T := TX6) (N := 31) hx hb hts hinX6 hown hK hP 0 rfl rfl 17 (by decide) k75 (fun _ h9 => h9) rfl dX6_over_71 ?_
        refine lv_goto (tgt := 78) hx hb dX6_over_74 (by decide) ?_
        exact hret t_top () hf hP hD hS dX6_over_78
    · have hf := hf.2 hc
      refine lv_iload_n hx hb dX6_over_19 rfl (lv_at hl 1 rfl) ?_
      refine lv_iconst (v := (1 : Int32)) hx hb dX6_over_20 (by decide) ?_
      refine lv_iadd hx hb dX6_over_21 ?_
      refine lv_bipush (v := (9 : Int32)) hx hb dX6_over_22 (by decide) ?_
      refine lv_icmp_le (tgt := 31) hx hb dX6_over_24 (by decide) (fun hc => ?_) (fun hc => ?_)
      · have hf := hf.1 hc
        refine lv_iload_n hx hb dX6_over_31 rfl (lv_at hl 2 rfl) ?_
        refine lv_iload_n hx hb dX6_over_32 rfl (lv_at hl 2 rfl) ?_
        refine lv_aload_n hx hb dX6_over_33 rfl (lv_at hl 0 rfl) ?_
        refine va_get (D := D) (ci := 6) (v := .ref q_t_weight) (C := RX6) (T := TX6) (N := 31) hx hb hts hinX6 hown hK hP 0 rfl rfl 15 (by decide) k39 (fun _ h9 => h9) rfl dX6_over_34 ?_
        refine lv_iload_n hx hb dX6_over_37 rfl (lv_at hl 1 rfl) ?_
        refine lv_iconst (v := (1 : Int32)) hx hb dX6_over_38 (by decide) ?_
        refine lv_iadd hx hb dX6_over_39 ?_
        refine va_iald hx hb hK hP 1 0 rfl rfl (n := 12) hf.1 dX6_over_40 ?_
        have hf := hf.2
        refine lv_irem hx hb dX6_over_41 hf.1 ?_
        have hf := hf.2
        refine lv_isub hx hb dX6_over_42 ?_
        exact hret ((a2 - (a2 - a2 / (t_weight ((a1 + (1 : Int32))).toNatClampNeg) * (t_weight ((a1 + (1 : Int32))).toNatClampNeg)))) () hf hP hD hS dX6_over_43
      · have hf := hf.2 hc
        refine lv_iconst (v := (0 : Int32)) hx hb dX6_over_27 (by decide) ?_
        refine lv_goto (tgt := 43) hx hb dX6_over_28 (by decide) ?_
        exact hret (0 : Int32) () hf hP hD hS dX6_over_43
  · have hf := hf.2 hc
    refine lv_aload_n hx hb dX6_over_8 rfl (lv_at hl 0 rfl) ?_
    refine va_get (D := D) (ci := 6) (v := .int t_top) (C := RX6) (T := TX6) (N := 31) hx hb hts hinX6 hown hK hP 0 rfl rfl 17 (by decide) k75 (fun _ h9 => h9) rfl dX6_over_9 ?_
    exact hret t_top () hf hP hD hS dX6_over_12
abbrev wd_X6_lifted (cI cZ cB cG : ClassId) (q_t : Nat) (q_t_live : Nat) (q_t_measure : Nat) (q_t_now : Nat) (q_t_weight : Nat) (q_t_keys : Nat) (q_t_aside : Nat) (q_t_old : Nat) (q_t_saved : Nat) (q_t_input : Nat) (q_t_output : Nat) (q_t_planned : Nat) (q_t_came : Nat) (q_t_rank : Nat) (t_thrown : Int32) (t_oldMany : Int32) (t_savedSet : Int32) (t_inputMany : Int32) (t_outputMany : Int32) (t_errorCode : Int32) (t_errorPosition : Int32) (t_top : Int32) (t_ahead : Int32) (t_round : Int32) (t_loudest : Int32) (t_textEnd : Int32) (t_kind : Int32) (t_from : Int32) (t_to : Int32) (t_value : Int32) (t_fault : Int32) (t_faultAt : Int32) (t_live : (Nat → Int32)) (t_measure : (Nat → Int32)) (t_now : (Nat → Int32)) (t_weight : (Nat → Int32)) : va_W := [(q_t, .inr (6, [.ref q_t_keys, .int t_thrown, .ref q_t_now, .ref q_t_aside, .ref q_t_old, .int t_oldMany, .ref q_t_saved, .int t_savedSet, .ref q_t_input, .int t_inputMany, .ref q_t_output, .int t_outputMany, .int t_errorCode, .int t_errorPosition, .ref q_t_live, .ref q_t_weight, .ref q_t_measure, .int t_top, .ref q_t_planned, .ref q_t_came, .ref q_t_rank, .int t_ahead, .int t_round, .int t_loudest, .int t_textEnd, .int t_kind, .int t_from, .int t_to, .int t_value, .int t_fault, .int t_faultAt])), (q_t_live, .inl (cI, 61, .inl t_live)), (q_t_measure, .inl (cI, 20, .inl t_measure)), (q_t_now, .inl (cI, 176, .inl t_now)), (q_t_weight, .inl (cI, 12, .inl t_weight))]
def F_X6_lifted_14 (v1 : Int32) (v2 : Int32) (t_top : Int32) (t_live : (Nat → Int32)) (t_measure : (Nat → Int32)) (t_now : (Nat → Int32)) (t_weight : (Nat → Int32)) (K0 : Int32 → Int32 → Prop) (rec : Int32 → Int32 → Prop) (v3 : Int32) (v4 : Int32) : Prop := (((t_now 1) ≤ v4 → (K0 v3 v4)) ∧ (¬ ((t_now 1) ≤ v4) → (vp_in v4 61 ∧ ((¬ (t_live v4.toNatClampNeg) = (1 : Int32) → (rec v3 ((v4 + (1 : Int32))))) ∧ ((t_live v4.toNatClampNeg) = (1 : Int32) → (vp_in (((44 : Int32) + v4)) 176 ∧ ((¬ (t_now (((44 : Int32) + v4)).toNatClampNeg) = v1 → (rec v3 ((v4 + (1 : Int32))))) ∧ ((t_now (((44 : Int32) + v4)).toNatClampNeg) = v1 → (vp_in (((24 : Int32) + v1)) 176 ∧ (vp_in (((105 : Int32) + v4)) 176 ∧ (vp_in ((t_now (((105 : Int32) + v4)).toNatClampNeg)) 20 ∧ (wp_X6_over ((t_now (((24 : Int32) + v1)).toNatClampNeg)) ((t_measure ((t_now (((105 : Int32) + v4)).toNatClampNeg)).toNatClampNeg)) t_top t_weight (fun r_2 => ((v3 = (-1 : Int32) → (rec r_2 ((v4 + (1 : Int32))))) ∧ (¬ (v3 = (-1 : Int32)) → ((¬ v2 = (0 : Int32) → ((r_2 ≤ v3 → (rec v3 ((v4 + (1 : Int32))))) ∧ (¬ (r_2 ≤ v3) → (rec r_2 ((v4 + (1 : Int32))))))) ∧ (v2 = (0 : Int32) → ((v3 ≤ r_2 → (rec v3 ((v4 + (1 : Int32))))) ∧ (¬ (v3 ≤ r_2) → (rec r_2 ((v4 + (1 : Int32)))))))))))))))))))))))
def wp_X6_lifted (a1 : Int32) (t_top : Int32) (t_live : (Nat → Int32)) (t_measure : (Nat → Int32)) (t_now : (Nat → Int32)) (t_weight : (Nat → Int32)) (post : Int32 → Prop) : Prop := (vp_in (((4 : Int32) + a1)) 176 ∧ (∃ n, fx2 (F_X6_lifted_14 a1 ((t_now (((4 : Int32) + a1)).toNatClampNeg)) t_top t_live t_measure t_now t_weight (fun v3_3 v4_4 => ((v3_3 = (-1 : Int32) → ((¬ (t_now (((4 : Int32) + a1)).toNatClampNeg) = (0 : Int32) → (post (0 : Int32))) ∧ ((t_now (((4 : Int32) + a1)).toNatClampNeg) = (0 : Int32) → (post t_top)))) ∧ (¬ (v3_3 = (-1 : Int32)) → (post v3_3))))) n (-1 : Int32) (0 : Int32)))
abbrev rm_X6_lifted : Room := { frames := 2, cells := 0, slots := 0, locals := 103 }
theorem in_X6_lifted_X6 : ∀ w ∈ u_ws RX6 TX6 31, w ∈ wsX6_lifted := by decide +kernel
theorem k_X6_lifted_13 : Cond.fieldLink RX6 13 "ParityGameModel" "now" "[I" ∈ wsX6_lifted := by decide +kernel
theorem k_X6_lifted_36 : Cond.fieldLink RX6 36 "ParityGameModel" "live" "[I" ∈ wsX6_lifted := by decide +kernel
theorem k_X6_lifted_42 : Cond.fieldLink RX6 42 "ParityGameModel" "measure" "[I" ∈ wsX6_lifted := by decide +kernel
theorem k_X6_lifted_75 : Cond.fieldLink RX6 75 "ParityGameModel" "top" "I" ∈ wsX6_lifted := by decide +kernel
set_option maxHeartbeats 40000000 in
set_option maxRecDepth 100000 in
theorem c_X6_lifted (l : Launch) (D : va_G) (X : gX) (cI cZ cB cG : ClassId) (sz : Nat) (q_t : Nat) (q_t_live : Nat) (q_t_measure : Nat) (q_t_now : Nat) (q_t_weight : Nat) (q_t_keys : Nat) (q_t_aside : Nat) (q_t_old : Nat) (q_t_saved : Nat) (q_t_input : Nat) (q_t_output : Nat) (q_t_planned : Nat) (q_t_came : Nat) (q_t_rank : Nat) (a1 : Int32) (t_thrown : Int32) (t_oldMany : Int32) (t_savedSet : Int32) (t_inputMany : Int32) (t_outputMany : Int32) (t_errorCode : Int32) (t_errorPosition : Int32) (t_top : Int32) (t_ahead : Int32) (t_round : Int32) (t_loudest : Int32) (t_textEnd : Int32) (t_kind : Int32) (t_from : Int32) (t_to : Int32) (t_value : Int32) (t_fault : Int32) (t_faultAt : Int32) (t_live : (Nat → Int32)) (t_measure : (Nat → Int32)) (t_now : (Nat → Int32)) (t_weight : (Nat → Int32)) (post : Int32 → Prop) (hf : wp_X6_lifted a1 t_top t_live t_measure t_now t_weight post) : Met l yX6_lifted wsX6_lifted rm_X6_lifted (gP D X (gT cI cZ cB cG) sz [.ref q_t, .int a1] (wd_X6_lifted cI cZ cB cG q_t q_t_live q_t_measure q_t_now q_t_weight q_t_keys q_t_aside q_t_old q_t_saved q_t_input q_t_output q_t_planned q_t_came q_t_rank t_thrown t_oldMany t_savedSet t_inputMany t_outputMany t_errorCode t_errorPosition t_top t_ahead t_round t_loudest t_textEnd t_kind t_from t_to t_value t_fault t_faultAt t_live t_measure t_now t_weight)) (va_Qi (fun (r : Int32) (u : Unit) => post r) (fun u t => gB D (gT cI cZ cB cG) (va_A (wd_X6_lifted cI cZ cB cG q_t q_t_live q_t_measure q_t_now q_t_weight q_t_keys q_t_aside q_t_old q_t_saved q_t_input q_t_output q_t_planned q_t_came q_t_rank t_thrown t_oldMany t_savedSet t_inputMany t_outputMany t_errorCode t_errorPosition t_top t_ahead t_round t_loudest t_textEnd t_kind t_from t_to t_value t_fault t_faultAt t_live t_measure t_now t_weight) sz) (wd_X6_lifted cI cZ cB cG q_t q_t_live q_t_measure q_t_now q_t_weight q_t_keys q_t_aside q_t_old q_t_saved q_t_input q_t_output q_t_planned q_t_came q_t_rank t_thrown t_oldMany t_savedSet t_inputMany t_outputMany t_errorCode t_errorPosition t_top t_ahead t_round t_loudest t_textEnd t_kind t_from t_to t_value t_fault t_faultAt t_live t_measure t_now t_weight) t) (va_A (wd_X6_lifted cI cZ cB cG q_t q_t_live q_t_measure q_t_now q_t_weight q_t_keys q_t_aside q_t_old q_t_saved q_t_input q_t_output q_t_planned q_t_came q_t_rank t_thrown t_oldMany t_savedSet t_inputMany t_outputMany t_errorCode t_errorPosition t_top t_ahead t_round t_loudest t_textEnd t_kind t_from t_to t_value t_fault t_faultAt t_live t_measure t_now t_weight) sz)) 0 0 (va_A (wd_X6_lifted cI cZ cB cG q_t q_t_live q_t_measure q_t_now q_t_weight q_t_keys q_t_aside q_t_old q_t_saved q_t_input q_t_output q_t_planned q_t_came q_t_rank t_thrown t_oldMany t_savedSet t_inputMany t_outputMany t_errorCode t_errorPosition t_top t_ahead t_round t_loudest t_textEnd t_kind t_from t_to t_value t_fault t_faultAt t_live t_measure t_now t_weight) sz) := by
  refine g_ofWi (cc := cX6_lifted) (maxL := 6) (by decide +kernel) (Nat.le_of_ble_eq_true rfl) rfl ?_
  intro p e s m args below meth c A Q hx hb hml hown hts hA hK hE H hP hD hS ls hl hret
  have hinX6 := in_X6_lifted_X6
  have k13 := hts _ k_X6_lifted_13
  have k36 := hts _ k_X6_lifted_36
  have k42 := hts _ k_X6_lifted_42
  have k75 := hts _ k_X6_lifted_75
  have hl : lv_has ls 6 [(0, .ref q_t), (1, .int a1)] := hl
  have L14 : ∀ (v1 : Int32) (v2 : Int32) (K0 : Int32 → Int32 → Prop) (_ : ∀ (v3 : Int32) (v4 : Int32) (H : Heap) (locs : List Loc) (ls : Array Slot), K0 v3 v4 → va_P D vwCl (wd_X6_lifted cI cZ cB cG q_t q_t_live q_t_measure q_t_now q_t_weight q_t_keys q_t_aside q_t_old q_t_saved q_t_input q_t_output q_t_planned q_t_came q_t_rank t_thrown t_oldMany t_savedSet t_inputMany t_outputMany t_errorCode t_errorPosition t_top t_ahead t_round t_loudest t_textEnd t_kind t_from t_to t_value t_fault t_faultAt t_live t_measure t_now t_weight) H → va_D A (wd_X6_lifted cI cZ cB cG q_t q_t_live q_t_measure q_t_now q_t_weight q_t_keys q_t_aside q_t_old q_t_saved q_t_input q_t_output q_t_planned q_t_came q_t_rank t_thrown t_oldMany t_savedSet t_inputMany t_outputMany t_errorCode t_errorPosition t_top t_ahead t_round t_loudest t_textEnd t_kind t_from t_to t_value t_fault t_faultAt t_live t_measure t_now t_weight) → va_S A s.heap H locs → lv_has ls 6 [(0, .ref q_t), (2, .int v2), (3, .int v3)] → W p l e (rm_X6_lifted) s m args below meth c H locs 0 0 Q (F0 m 113 ls []))  (n : Nat) (v3 : Int32) (v4 : Int32) (H : Heap) (locs : List Loc) (ls : Array Slot), fx2 (F_X6_lifted_14 v1 v2 t_top t_live t_measure t_now t_weight K0) n v3 v4 → va_P D vwCl (wd_X6_lifted cI cZ cB cG q_t q_t_live q_t_measure q_t_now q_t_weight q_t_keys q_t_aside q_t_old q_t_saved q_t_input q_t_output q_t_planned q_t_came q_t_rank t_thrown t_oldMany t_savedSet t_inputMany t_outputMany t_errorCode t_errorPosition t_top t_ahead t_round t_loudest t_textEnd t_kind t_from t_to t_value t_fault t_faultAt t_live t_measure t_now t_weight) H → va_D A (wd_X6_lifted cI cZ cB cG q_t q_t_live q_t_measure q_t_now q_t_weight q_t_keys q_t_aside q_t_old q_t_saved q_t_input q_t_output q_t_planned q_t_came q_t_rank t_thrown t_oldMany t_savedSet t_inputMany t_outputMany t_errorCode t_errorPosition t_top t_ahead t_round t_loudest t_textEnd t_kind t_from t_to t_value t_fault t_faultAt t_live t_measure t_now t_weight) → va_S A s.heap H locs → lv_has ls 6 [(0, .ref q_t), (1, .int v1), (2, .int v2), (3, .int v3), (4, .int v4)] → W p l e (rm_X6_lifted) s m args below meth c H locs 0 0 Q (F0 m 14 ls []) := by
    intro v1 v2 K0 hK0 n
    induction n with
    | zero => intro v3 v4 H locs ls hf; exact (hf : False).elim
    | succ n ih =>
      intro v3 v4 H locs ls hf hP hD hS hl
      have hf : F_X6_lifted_14 v1 v2 t_top t_live t_measure t_now t_weight K0 (fx2 (F_X6_lifted_14 v1 v2 t_top t_live t_measure t_now t_weight K0) n) v3 v4 := hf
      unfold F_X6_lifted_14 at hf
      refine lv_iload hx hb dX6_lifted_14 (lv_at hl 4 rfl) ?_
      refine lv_aload_n hx hb dX6_lifted_16 rfl (lv_at hl 0 rfl) ?_
      refine va_get (D := D) (ci := 6) (v := .ref q_t_now) (C := RX6) (T := TX6) (N := 31) hx hb hts hinX6 hown hK hP 0 rfl rfl 2 (by decide) k13 (fun _ h9 => h9) rfl dX6_lifted_17 ?_
      refine lv_iconst (v := (1 : Int32)) hx hb dX6_lifted_20 (by decide) ?_
      refine va_iald hx hb hK hP 3 0 rfl rfl (n := 176) (by unfold vp_in; decide) dX6_lifted_21 ?_
      refine lv_icmp_ge (tgt := 113) hx hb dX6_lifted_22 (by decide) (fun hc => ?_) (fun hc => ?_)
      · have hf := hf.1 hc
        exact hK0 _ _ _ _ _ hf hP hD hS (lv_sub hl [0, 2, 3] rfl)
      · have hf := hf.2 hc
        refine lv_aload_n hx hb dX6_lifted_25 rfl (lv_at hl 0 rfl) ?_
        refine va_get (D := D) (ci := 6) (v := .ref q_t_live) (C := RX6) (T := TX6) (N := 31) hx hb hts hinX6 hown hK hP 0 rfl rfl 14 (by decide) k36 (fun _ h9 => h9) rfl dX6_lifted_26 ?_
        refine lv_iload hx hb dX6_lifted_29 (lv_at hl 4 rfl) ?_
        refine va_iald hx hb hK hP 1 0 rfl rfl (n := 61) hf.1 dX6_lifted_31 ?_
        have hf := hf.2
        refine lv_iconst (v := (1 : Int32)) hx hb dX6_lifted_32 (by decide) ?_
        refine lv_icmp_ne (tgt := 107) hx hb dX6_lifted_33 (by decide) (fun hc => ?_) (fun hc => ?_)
        · have hf := hf.1 hc
          refine lv_iinc (v := (v4 + (1 : Int32))) (lv' := [(4, .int ((v4 + (1 : Int32)))), (0, .ref q_t), (1, .int v1), (2, .int v2), (3, .int v3)]) hx hb dX6_lifted_107 hl (k := 4) rfl rfl (by decide) rfl (fun ls hl => ?_)
          refine lv_goto (tgt := 14) hx hb dX6_lifted_110 (by decide) ?_
          exact ih _ _ _ _ _ hf hP hD hS (lv_sub hl [1, 2, 3, 4, 0] rfl)
        · have hf := hf.2 hc
          refine lv_aload_n hx hb dX6_lifted_36 rfl (lv_at hl 0 rfl) ?_
          refine va_get (D := D) (ci := 6) (v := .ref q_t_now) (C := RX6) (T := TX6) (N := 31) hx hb hts hinX6 hown hK hP 0 rfl rfl 2 (by decide) k13 (fun _ h9 => h9) rfl dX6_lifted_37 ?_
          refine lv_bipush (v := (44 : Int32)) hx hb dX6_lifted_40 (by decide) ?_
          refine lv_iload hx hb dX6_lifted_42 (lv_at hl 4 rfl) ?_
          refine lv_iadd hx hb dX6_lifted_44 ?_
          refine va_iald hx hb hK hP 3 0 rfl rfl (n := 176) hf.1 dX6_lifted_45 ?_
          have hf := hf.2
          refine lv_iload_n hx hb dX6_lifted_46 rfl (lv_at hl 1 rfl) ?_
          refine lv_icmp_ne (tgt := 107) hx hb dX6_lifted_47 (by decide) (fun hc => ?_) (fun hc => ?_)
          · have hf := hf.1 hc
            refine lv_iinc (v := (v4 + (1 : Int32))) (lv' := [(4, .int ((v4 + (1 : Int32)))), (0, .ref q_t), (1, .int v1), (2, .int v2), (3, .int v3)]) hx hb dX6_lifted_107 hl (k := 4) rfl rfl (by decide) rfl (fun ls hl => ?_)
            refine lv_goto (tgt := 14) hx hb dX6_lifted_110 (by decide) ?_
            exact ih _ _ _ _ _ hf hP hD hS (lv_sub hl [1, 2, 3, 4, 0] rfl)
          · have hf := hf.2 hc
            refine lv_aload_n hx hb dX6_lifted_50 rfl (lv_at hl 0 rfl) ?_
            refine lv_aload_n hx hb dX6_lifted_51 rfl (lv_at hl 0 rfl) ?_
            refine va_get (D := D) (ci := 6) (v := .ref q_t_now) (C := RX6) (T := TX6) (N := 31) hx hb hts hinX6 hown hK hP 0 rfl rfl 2 (by decide) k13 (fun _ h9 => h9) rfl dX6_lifted_52 ?_
            refine lv_bipush (v := (24 : Int32)) hx hb dX6_lifted_55 (by decide) ?_
            refine lv_iload_n hx hb dX6_lifted_57 rfl (lv_at hl 1 rfl) ?_
            refine lv_iadd hx hb dX6_lifted_58 ?_
            refine va_iald hx hb hK hP 3 0 rfl rfl (n := 176) hf.1 dX6_lifted_59 ?_
            have hf := hf.2
            refine lv_aload_n hx hb dX6_lifted_60 rfl (lv_at hl 0 rfl) ?_
            refine va_get (D := D) (ci := 6) (v := .ref q_t_measure) (C := RX6) (T := TX6) (N := 31) hx hb hts hinX6 hown hK hP 0 rfl rfl 16 (by decide) k42 (fun _ h9 => h9) rfl dX6_lifted_61 ?_
            refine lv_aload_n hx hb dX6_lifted_64 rfl (lv_at hl 0 rfl) ?_
            refine va_get (D := D) (ci := 6) (v := .ref q_t_now) (C := RX6) (T := TX6) (N := 31) hx hb hts hinX6 hown hK hP 0 rfl rfl 2 (by decide) k13 (fun _ h9 => h9) rfl dX6_lifted_65 ?_
            refine lv_bipush (v := (105 : Int32)) hx hb dX6_lifted_68 (by decide) ?_
            refine lv_iload hx hb dX6_lifted_70 (lv_at hl 4 rfl) ?_
            refine lv_iadd hx hb dX6_lifted_72 ?_
            refine va_iald hx hb hK hP 3 0 rfl rfl (n := 176) hf.1 dX6_lifted_73 ?_
            have hf := hf.2
            refine va_iald hx hb hK hP 2 0 rfl rfl (n := 20) hf.1 dX6_lifted_74 ?_
            have hf := hf.2
            have hPc := hP.sub (ws' := (wd_X6_over cI cZ cB cG q_t q_t_weight q_t_keys q_t_now q_t_aside q_t_old q_t_saved q_t_input q_t_output q_t_live q_t_measure q_t_planned q_t_came q_t_rank t_thrown t_oldMany t_savedSet t_inputMany t_outputMany t_errorCode t_errorPosition t_top t_ahead t_round t_loudest t_textEnd t_kind t_from t_to t_value t_fault t_faultAt t_weight)) [0, 4] rfl
            have hDc := hD.sub (ws' := (wd_X6_over cI cZ cB cG q_t q_t_weight q_t_keys q_t_now q_t_aside q_t_old q_t_saved q_t_input q_t_output q_t_live q_t_measure q_t_planned q_t_came q_t_rank t_thrown t_oldMany t_savedSet t_inputMany t_outputMany t_errorCode t_errorPosition t_top t_ahead t_round t_loudest t_textEnd t_kind t_from t_to t_value t_fault t_faultAt t_weight)) [0, 4] (by decide +kernel) rfl
            have hFc := va_free (wc := (wd_X6_over cI cZ cB cG q_t q_t_weight q_t_keys q_t_now q_t_aside q_t_old q_t_saved q_t_input q_t_output q_t_live q_t_measure q_t_planned q_t_came q_t_rank t_thrown t_oldMany t_savedSet t_inputMany t_outputMany t_errorCode t_errorPosition t_top t_ahead t_round t_loudest t_textEnd t_kind t_from t_to t_value t_fault t_faultAt t_weight)) hD hS hA [0, 4] rfl
            refine va_calli (va_runV (As := [.int ((t_now (((24 : Int32) + v1)).toNatClampNeg)), .int ((t_measure ((t_now (((105 : Int32) + v4)).toNatClampNeg)).toNatClampNeg))]) (rest := []) ⟨hx, hb, hml, hown, hts⟩ (c_X6_over l D X cI cZ cB cG H.size q_t q_t_weight q_t_keys q_t_now q_t_aside q_t_old q_t_saved q_t_input q_t_output q_t_live q_t_measure q_t_planned q_t_came q_t_rank ((t_now (((24 : Int32) + v1)).toNatClampNeg)) ((t_measure ((t_now (((105 : Int32) + v4)).toNatClampNeg)).toNatClampNeg)) t_thrown t_oldMany t_savedSet t_inputMany t_outputMany t_errorCode t_errorPosition t_top t_ahead t_round t_loudest t_textEnd t_kind t_from t_to t_value t_fault t_faultAt t_weight _ hf) (cwV 2 hts gX6_lifted_X6_over rfl rfl rfl (by decide +kernel) ⟨Nat.le_of_ble_eq_true rfl, Nat.le_of_ble_eq_true rfl⟩) ⟨g_blind, va_recv hK hPc (ci := 6) (q0 := 0) rfl rfl, fun U hU hW => g_side hU hW hPc hK hDc hE hS hFc⟩ rfl rfl hl.1 rfl (lv_room (Nat.le_of_ble_eq_true rfl)) dX6_lifted_75 ⟨Nat.zero_le _, Nat.zero_le _⟩) hS (fun q _ h => hFc q h) hFc (fun r_2 u t H1 locs ht hvm hw hB hz1 hk1 hS => ?_)
            obtain ⟨hP1, hK1, hD1⟩ := hB
            rw [ht] at hP1
            obtain ⟨hP, hD⟩ := g_back (wc := (wd_X6_over cI cZ cB cG q_t q_t_weight q_t_keys q_t_now q_t_aside q_t_old q_t_saved q_t_input q_t_output q_t_live q_t_measure q_t_planned q_t_came q_t_rank t_thrown t_oldMany t_savedSet t_inputMany t_outputMany t_errorCode t_errorPosition t_top t_ahead t_round t_loudest t_textEnd t_kind t_from t_to t_value t_fault t_faultAt t_weight)) (w1 := (wd_X6_over cI cZ cB cG q_t q_t_weight q_t_keys q_t_now q_t_aside q_t_old q_t_saved q_t_input q_t_output q_t_live q_t_measure q_t_planned q_t_came q_t_rank t_thrown t_oldMany t_savedSet t_inputMany t_outputMany t_errorCode t_errorPosition t_top t_ahead t_round t_loudest t_textEnd t_kind t_from t_to t_value t_fault t_faultAt t_weight)) hP hD [0, 4] rfl rfl hk1 hP1
            have hP : va_P D vwCl (wd_X6_lifted cI cZ cB cG q_t q_t_live q_t_measure q_t_now q_t_weight q_t_keys q_t_aside q_t_old q_t_saved q_t_input q_t_output q_t_planned q_t_came q_t_rank t_thrown t_oldMany t_savedSet t_inputMany t_outputMany t_errorCode t_errorPosition t_top t_ahead t_round t_loudest t_textEnd t_kind t_from t_to t_value t_fault t_faultAt t_live t_measure t_now t_weight) H1 := hP
            have hD : va_D A (wd_X6_lifted cI cZ cB cG q_t q_t_live q_t_measure q_t_now q_t_weight q_t_keys q_t_aside q_t_old q_t_saved q_t_input q_t_output q_t_planned q_t_came q_t_rank t_thrown t_oldMany t_savedSet t_inputMany t_outputMany t_errorCode t_errorPosition t_top t_ahead t_round t_loudest t_textEnd t_kind t_from t_to t_value t_fault t_faultAt t_live t_measure t_now t_weight) := hD
            have hf := hw
            generalize H1 = H at hP hS ⊢
            refine lv_istore (lv' := [(5, .int r_2), (0, .ref q_t), (1, .int v1), (2, .int v2), (3, .int v3), (4, .int v4)]) hx hb dX6_lifted_78 hl (by decide) rfl (fun ls hl => ?_)
            refine lv_iload_n hx hb dX6_lifted_80 rfl (lv_at hl 4 rfl) ?_
            refine lv_iconst (v := (-1 : Int32)) hx hb dX6_lifted_81 (by decide) ?_
            refine lv_icmp_eq (tgt := 104) hx hb dX6_lifted_82 (by decide) (fun hc => ?_) (fun hc => ?_)
            · have hf := hf.1 hc
              refine lv_iload hx hb dX6_lifted_104 (lv_at hl 0 rfl) ?_
              refine lv_istore_n (lv' := [(3, .int r_2), (5, .int r_2), (0, .ref q_t), (1, .int v1), (2, .int v2), (4, .int v4)]) hx hb dX6_lifted_106 rfl hl (by decide) rfl (fun ls hl => ?_)
              refine lv_iinc (v := (v4 + (1 : Int32))) (lv' := [(4, .int ((v4 + (1 : Int32)))), (3, .int r_2), (5, .int r_2), (0, .ref q_t), (1, .int v1), (2, .int v2)]) hx hb dX6_lifted_107 hl (k := 5) rfl rfl (by decide) rfl (fun ls hl => ?_)
              refine lv_goto (tgt := 14) hx hb dX6_lifted_110 (by decide) ?_
              exact ih _ _ _ _ _ hf hP hD hS (lv_sub hl [3, 4, 5, 1, 0] rfl)
            · have hf := hf.2 hc
              refine lv_iload_n hx hb dX6_lifted_85 rfl (lv_at hl 3 rfl) ?_
              refine lv_if_ne (tgt := 98) hx hb dX6_lifted_86 (by decide) (fun hc => ?_) (fun hc => ?_)
              · have hf := hf.1 hc
                refine lv_iload hx hb dX6_lifted_98 (lv_at hl 0 rfl) ?_
                refine lv_iload_n hx hb dX6_lifted_100 rfl (lv_at hl 4 rfl) ?_
                refine lv_icmp_le (tgt := 107) hx hb dX6_lifted_101 (by decide) (fun hc => ?_) (fun hc => ?_)
                · have hf := hf.1 hc
                  refine lv_iinc (v := (v4 + (1 : Int32))) (lv' := [(4, .int ((v4 + (1 : Int32)))), (5, .int r_2), (0, .ref q_t), (1, .int v1), (2, .int v2), (3, .int v3)]) hx hb dX6_lifted_107 hl (k := 5) rfl rfl (by decide) rfl (fun ls hl => ?_)
                  refine lv_goto (tgt := 14) hx hb dX6_lifted_110 (by decide) ?_
                  exact ih _ _ _ _ _ hf hP hD hS (lv_sub hl [2, 3, 4, 5, 0] rfl)
                · have hf := hf.2 hc
                  refine lv_iload hx hb dX6_lifted_104 (lv_at hl 0 rfl) ?_
                  refine lv_istore_n (lv' := [(3, .int r_2), (5, .int r_2), (0, .ref q_t), (1, .int v1), (2, .int v2), (4, .int v4)]) hx hb dX6_lifted_106 rfl hl (by decide) rfl (fun ls hl => ?_)
                  refine lv_iinc (v := (v4 + (1 : Int32))) (lv' := [(4, .int ((v4 + (1 : Int32)))), (3, .int r_2), (5, .int r_2), (0, .ref q_t), (1, .int v1), (2, .int v2)]) hx hb dX6_lifted_107 hl (k := 5) rfl rfl (by decide) rfl (fun ls hl => ?_)
                  refine lv_goto (tgt := 14) hx hb dX6_lifted_110 (by decide) ?_
                  exact ih _ _ _ _ _ hf hP hD hS (lv_sub hl [3, 4, 5, 1, 0] rfl)
              · have hf := hf.2 hc
                refine lv_iload hx hb dX6_lifted_89 (lv_at hl 0 rfl) ?_
                refine lv_iload_n hx hb dX6_lifted_91 rfl (lv_at hl 4 rfl) ?_
                refine lv_icmp_ge (tgt := 107) hx hb dX6_lifted_92 (by decide) (fun hc => ?_) (fun hc => ?_)
                · have hf := hf.1 hc
                  refine lv_iinc (v := (v4 + (1 : Int32))) (lv' := [(4, .int ((v4 + (1 : Int32)))), (5, .int r_2), (0, .ref q_t), (1, .int v1), (2, .int v2), (3, .int v3)]) hx hb dX6_lifted_107 hl (k := 5) rfl rfl (by decide) rfl (fun ls hl => ?_)
                  refine lv_goto (tgt := 14) hx hb dX6_lifted_110 (by decide) ?_
                  exact ih _ _ _ _ _ hf hP hD hS (lv_sub hl [2, 3, 4, 5, 0] rfl)
                · have hf := hf.2 hc
                  refine lv_goto (tgt := 104) hx hb dX6_lifted_95 (by decide) ?_
                  refine lv_iload hx hb dX6_lifted_104 (lv_at hl 0 rfl) ?_
                  refine lv_istore_n (lv' := [(3, .int r_2), (5, .int r_2), (0, .ref q_t), (1, .int v1), (2, .int v2), (4, .int v4)]) hx hb dX6_lifted_106 rfl hl (by decide) rfl (fun ls hl => ?_)
                  refine lv_iinc (v := (v4 + (1 : Int32))) (lv' := [(4, .int ((v4 + (1 : Int32)))), (3, .int r_2), (5, .int r_2), (0, .ref q_t), (1, .int v1), (2, .int v2)]) hx hb dX6_lifted_107 hl (k := 5) rfl rfl (by decide) rfl (fun ls hl => ?_)
                  refine lv_goto (tgt := 14) hx hb dX6_lifted_110 (by decide) ?_
                  exact ih _ _ _ _ _ hf hP hD hS (lv_sub hl [3, 4, 5, 1, 0] rfl)
  unfold wp_X6_lifted at hf
  refine lv_aload_n hx hb dX6_lifted_0 rfl (lv_at hl 0 rfl) ?_
  refine va_get (D := D) (ci := 6) (v := .ref q_t_now) (C := RX6) (T := TX6) (N := 31) hx hb hts hinX6 hown hK hP 0 rfl rfl 2 (by decide) k13 (fun _ h9 => h9) rfl dX6_lifted_1 ?_
  refine lv_iconst (v := (4 : Int32)) hx hb dX6_lifted_4 (by decide) ?_
  refine lv_iload_n hx hb dX6_lifted_5 rfl (lv_at hl 1 rfl) ?_
  refine lv_iadd hx hb dX6_lifted_6 ?_
  refine va_iald hx hb hK hP 3 0 rfl rfl (n := 176) hf.1 dX6_lifted_7 ?_
  have hf := hf.2
  refine lv_istore_n (lv' := [(2, .int ((t_now (((4 : Int32) + a1)).toNatClampNeg))), (0, .ref q_t), (1, .int a1)]) hx hb dX6_lifted_8 rfl hl (by decide) rfl (fun ls hl => ?_)
  refine lv_iconst (v := (-1 : Int32)) hx hb dX6_lifted_9 (by decide) ?_
  refine lv_istore_n (lv' := [(3, .int (-1 : Int32)), (2, .int ((t_now (((4 : Int32) + a1)).toNatClampNeg))), (0, .ref q_t), (1, .int a1)]) hx hb dX6_lifted_10 rfl hl (by decide) rfl (fun ls hl => ?_)
  refine lv_iconst (v := (0 : Int32)) hx hb dX6_lifted_11 (by decide) ?_
  refine lv_istore (lv' := [(4, .int (0 : Int32)), (3, .int (-1 : Int32)), (2, .int ((t_now (((4 : Int32) + a1)).toNatClampNeg))), (0, .ref q_t), (1, .int a1)]) hx hb dX6_lifted_12 hl (by decide) rfl (fun ls hl => ?_)
  obtain ⟨n, hf⟩ := hf
  refine L14 a1 ((t_now (((4 : Int32) + a1)).toNatClampNeg)) _ ?_  n _ _ _ _ _ hf hP hD hS (lv_sub hl [3, 4, 2, 1, 0] rfl)
  intro v3_3 v4_4 H locs ls hf hP hD hS hl
  refine lv_iload_n hx hb dX6_lifted_113 rfl (lv_at hl 2 rfl) ?_
  refine lv_iconst (v := (-1 : Int32)) hx hb dX6_lifted_114 (by decide) ?_
  refine lv_icmp_eq (tgt := 122) hx hb dX6_lifted_115 (by decide) (fun hc => ?_) (fun hc => ?_)
  · have hf := hf.1 hc
    refine lv_iload_n hx hb dX6_lifted_122 rfl (lv_at hl 1 rfl) ?_
    refine lv_if_ne (tgt := 133) hx hb dX6_lifted_123 (by decide) (fun hc => ?_) (fun hc => ?_)
    · have hf := hf.1 hc
      refine lv_iconst (v := (0 : Int32)) hx hb dX6_lifted_133 (by decide) ?_
      exact hret (0 : Int32) () hf hP hD hS dX6_lifted_134
    · have hf := hf.2 hc
      refine lv_aload_n hx hb dX6_lifted_126 rfl (lv_at hl 0 rfl) ?_
      refine va_get (D := D) (ci := 6) (v := .int t_top) (C := RX6) (T := TX6) (N := 31) hx hb hts hinX6 hown hK hP 0 rfl rfl 17 (by decide) k75 (fun _ h9 => h9) rfl dX6_lifted_127 ?_
      refine lv_goto (tgt := 134) hx hb dX6_lifted_130 (by decide) ?_
      exact hret t_top () hf hP hD hS dX6_lifted_134
  · have hf := hf.2 hc
    refine lv_iload_n hx hb dX6_lifted_118 rfl (lv_at hl 2 rfl) ?_
    refine lv_goto (tgt := 134) hx hb dX6_lifted_119 (by decide) ?_
    exact hret v3_3 () hf hP hD hS dX6_lifted_134
abbrev wd_X6_solved (cI cZ cB cG : ClassId) (q_t : Nat) (q_t_live : Nat) (q_t_measure : Nat) (q_t_now : Nat) (q_t_weight : Nat) (q_t_keys : Nat) (q_t_aside : Nat) (q_t_old : Nat) (q_t_saved : Nat) (q_t_input : Nat) (q_t_output : Nat) (q_t_planned : Nat) (q_t_came : Nat) (q_t_rank : Nat) (t_thrown : Int32) (t_oldMany : Int32) (t_savedSet : Int32) (t_inputMany : Int32) (t_outputMany : Int32) (t_errorCode : Int32) (t_errorPosition : Int32) (t_top : Int32) (t_ahead : Int32) (t_round : Int32) (t_loudest : Int32) (t_textEnd : Int32) (t_kind : Int32) (t_from : Int32) (t_to : Int32) (t_value : Int32) (t_fault : Int32) (t_faultAt : Int32) (t_live : (Nat → Int32)) (t_measure : (Nat → Int32)) (t_now : (Nat → Int32)) (t_weight : (Nat → Int32)) : va_W := [(q_t, .inr (6, [.ref q_t_keys, .int t_thrown, .ref q_t_now, .ref q_t_aside, .ref q_t_old, .int t_oldMany, .ref q_t_saved, .int t_savedSet, .ref q_t_input, .int t_inputMany, .ref q_t_output, .int t_outputMany, .int t_errorCode, .int t_errorPosition, .ref q_t_live, .ref q_t_weight, .ref q_t_measure, .int t_top, .ref q_t_planned, .ref q_t_came, .ref q_t_rank, .int t_ahead, .int t_round, .int t_loudest, .int t_textEnd, .int t_kind, .int t_from, .int t_to, .int t_value, .int t_fault, .int t_faultAt])), (q_t_live, .inl (cI, 61, .inl t_live)), (q_t_measure, .inl (cI, 20, .inl t_measure)), (q_t_now, .inl (cI, 176, .inl t_now)), (q_t_weight, .inl (cI, 12, .inl t_weight))]
def F_X6_solved_6 (t_now : (Nat → Int32)) (K0 : Int32 → (Nat → Int32) → Prop) (rec : Int32 → (Nat → Int32) → Prop) (v1 : Int32) (t_measure : (Nat → Int32)) : Prop := (((t_now 0) ≤ v1 → (K0 v1 t_measure)) ∧ (¬ ((t_now 0) ≤ v1) → (vp_in v1 20 ∧ (rec ((v1 + (1 : Int32))) ((upd t_measure v1.toNatClampNeg (0 : Int32)))))))
def F_X6_solved_39 (t_top : Int32) (t_weight : (Nat → Int32)) (t_live : (Nat → Int32)) (t_now : (Nat → Int32)) (K0 : Int32 → Int32 → (Nat → Int32) → Prop) (rec : Int32 → Int32 → (Nat → Int32) → Prop) (v1 : Int32) (v2 : Int32) (t_measure : (Nat → Int32)) : Prop := (((t_now 0) ≤ v2 → (K0 v1 v2 t_measure)) ∧ (¬ ((t_now 0) ≤ v2) → (wp_X6_lifted v2 t_top t_live t_measure t_now t_weight (fun r_6 => (vp_in v2 20 ∧ ((r_6 ≤ (t_measure v2.toNatClampNeg) → (rec v1 ((v2 + (1 : Int32))) t_measure)) ∧ (¬ (r_6 ≤ (t_measure v2.toNatClampNeg)) → (vp_in v2 20 ∧ (rec (1 : Int32) ((v2 + (1 : Int32))) (upd t_measure v2.toNatClampNeg r_6))))))))))
def F_X6_solved_31 (t_top : Int32) (t_weight : (Nat → Int32)) (t_live : (Nat → Int32)) (t_now : (Nat → Int32)) (K0 : Int32 → (Nat → Int32) → Prop) (rec : Int32 → (Nat → Int32) → Prop) (v1 : Int32) (t_measure : (Nat → Int32)) : Prop := ((v1 = (0 : Int32) → (K0 v1 t_measure)) ∧ (¬ (v1 = (0 : Int32)) → (∃ n, fx3 (F_X6_solved_39 t_top t_weight t_live t_now (fun v1_7 v2_8 t_measure_9 => (rec v1_7 t_measure_9))) n (0 : Int32) (0 : Int32) t_measure)))
def F_X6_solved_87 (t_top : Int32) (t_measure : (Nat → Int32)) (t_now : (Nat → Int32)) (K0 : Int32 → Int32 → Prop) (rec : Int32 → Int32 → Prop) (v2 : Int32) (v3 : Int32) : Prop := (((t_now 0) ≤ v3 → (K0 v2 v3)) ∧ (¬ ((t_now 0) ≤ v3) → (vp_in v3 20 ∧ ((t_top ≤ (t_measure v3.toNatClampNeg) → (rec ((v2 ||| (0 : Int32))) ((v3 + (1 : Int32))))) ∧ (¬ (t_top ≤ (t_measure v3.toNatClampNeg)) → (rec ((v2 ||| ((1 : Int32) <<< (v3 &&& 31)))) ((v3 + (1 : Int32)))))))))
def wp_X6_solved (t_live : (Nat → Int32)) (t_measure : (Nat → Int32)) (t_now : (Nat → Int32)) (t_weight : (Nat → Int32)) (post : Int32 → Int32 → (Nat → Int32) → (Nat → Int32) → Prop) : Prop := (wp_X6_weighs t_now t_weight (fun t_top_2 t_weight_3 => (∃ n, fx2 (F_X6_solved_6 t_now (fun v1_4 t_measure_5 => (∃ n, fx2 (F_X6_solved_31 t_top_2 t_weight_3 t_live t_now (fun v1_10 t_measure_11 => (∃ n, fx2 (F_X6_solved_87 t_top_2 t_measure_11 t_now (fun v2_12 v3_13 => (post v2_12 t_top_2 t_measure_11 t_weight_3))) n (0 : Int32) (0 : Int32)))) n (1 : Int32) t_measure_5))) n (0 : Int32) t_measure)))
abbrev rm_X6_solved : Room := { frames := 3, cells := 0, slots := 0, locals := 128 }
theorem in_X6_solved_X6 : ∀ w ∈ u_ws RX6 TX6 31, w ∈ wsX6_solved := by decide +kernel
theorem k_X6_solved_13 : Cond.fieldLink RX6 13 "ParityGameModel" "now" "[I" ∈ wsX6_solved := by decide +kernel
theorem k_X6_solved_42 : Cond.fieldLink RX6 42 "ParityGameModel" "measure" "[I" ∈ wsX6_solved := by decide +kernel
theorem k_X6_solved_75 : Cond.fieldLink RX6 75 "ParityGameModel" "top" "I" ∈ wsX6_solved := by decide +kernel
set_option maxHeartbeats 40000000 in
set_option maxRecDepth 100000 in
theorem c_X6_solved (l : Launch) (D : va_G) (X : gX) (cI cZ cB cG : ClassId) (sz : Nat) (q_t : Nat) (q_t_live : Nat) (q_t_measure : Nat) (q_t_now : Nat) (q_t_weight : Nat) (q_t_keys : Nat) (q_t_aside : Nat) (q_t_old : Nat) (q_t_saved : Nat) (q_t_input : Nat) (q_t_output : Nat) (q_t_planned : Nat) (q_t_came : Nat) (q_t_rank : Nat) (t_thrown : Int32) (t_oldMany : Int32) (t_savedSet : Int32) (t_inputMany : Int32) (t_outputMany : Int32) (t_errorCode : Int32) (t_errorPosition : Int32) (t_top : Int32) (t_ahead : Int32) (t_round : Int32) (t_loudest : Int32) (t_textEnd : Int32) (t_kind : Int32) (t_from : Int32) (t_to : Int32) (t_value : Int32) (t_fault : Int32) (t_faultAt : Int32) (t_live : (Nat → Int32)) (t_measure : (Nat → Int32)) (t_now : (Nat → Int32)) (t_weight : (Nat → Int32)) (post : Int32 → Int32 → (Nat → Int32) → (Nat → Int32) → Prop) (hf : wp_X6_solved t_live t_measure t_now t_weight post) : Met l yX6_solved wsX6_solved rm_X6_solved (gP D X (gT cI cZ cB cG) sz [.ref q_t] (wd_X6_solved cI cZ cB cG q_t q_t_live q_t_measure q_t_now q_t_weight q_t_keys q_t_aside q_t_old q_t_saved q_t_input q_t_output q_t_planned q_t_came q_t_rank t_thrown t_oldMany t_savedSet t_inputMany t_outputMany t_errorCode t_errorPosition t_top t_ahead t_round t_loudest t_textEnd t_kind t_from t_to t_value t_fault t_faultAt t_live t_measure t_now t_weight)) (va_Qi (fun (r : Int32) (u : Int32 × (Nat → Int32) × (Nat → Int32)) => post r u.1 u.2.1 u.2.2) (fun u t => gB D (gT cI cZ cB cG) (va_A (wd_X6_solved cI cZ cB cG q_t q_t_live q_t_measure q_t_now q_t_weight q_t_keys q_t_aside q_t_old q_t_saved q_t_input q_t_output q_t_planned q_t_came q_t_rank t_thrown t_oldMany t_savedSet t_inputMany t_outputMany t_errorCode t_errorPosition t_top t_ahead t_round t_loudest t_textEnd t_kind t_from t_to t_value t_fault t_faultAt t_live t_measure t_now t_weight) sz) (wd_X6_solved cI cZ cB cG q_t q_t_live q_t_measure q_t_now q_t_weight q_t_keys q_t_aside q_t_old q_t_saved q_t_input q_t_output q_t_planned q_t_came q_t_rank t_thrown t_oldMany t_savedSet t_inputMany t_outputMany t_errorCode t_errorPosition u.1 t_ahead t_round t_loudest t_textEnd t_kind t_from t_to t_value t_fault t_faultAt t_live u.2.1 t_now u.2.2) t) (va_A (wd_X6_solved cI cZ cB cG q_t q_t_live q_t_measure q_t_now q_t_weight q_t_keys q_t_aside q_t_old q_t_saved q_t_input q_t_output q_t_planned q_t_came q_t_rank t_thrown t_oldMany t_savedSet t_inputMany t_outputMany t_errorCode t_errorPosition t_top t_ahead t_round t_loudest t_textEnd t_kind t_from t_to t_value t_fault t_faultAt t_live t_measure t_now t_weight) sz)) 0 0 (va_A (wd_X6_solved cI cZ cB cG q_t q_t_live q_t_measure q_t_now q_t_weight q_t_keys q_t_aside q_t_old q_t_saved q_t_input q_t_output q_t_planned q_t_came q_t_rank t_thrown t_oldMany t_savedSet t_inputMany t_outputMany t_errorCode t_errorPosition t_top t_ahead t_round t_loudest t_textEnd t_kind t_from t_to t_value t_fault t_faultAt t_live t_measure t_now t_weight) sz) := by
  refine g_ofWi (cc := cX6_solved) (maxL := 4) (by decide +kernel) (Nat.le_of_ble_eq_true rfl) rfl ?_
  intro p e s m args below meth c A Q hx hb hml hown hts hA hK hE H hP hD hS ls hl hret
  have hinX6 := in_X6_solved_X6
  have k13 := hts _ k_X6_solved_13
  have k42 := hts _ k_X6_solved_42
  have k75 := hts _ k_X6_solved_75
  have hl : lv_has ls 4 [(0, .ref q_t)] := hl
  have L6 : ∀ (t_top : Int32) (t_weight : (Nat → Int32)) (K0 : Int32 → (Nat → Int32) → Prop) (_ : ∀ (v1 : Int32) (t_measure : (Nat → Int32)) (H : Heap) (locs : List Loc) (ls : Array Slot), K0 v1 t_measure → va_P D vwCl (wd_X6_solved cI cZ cB cG q_t q_t_live q_t_measure q_t_now q_t_weight q_t_keys q_t_aside q_t_old q_t_saved q_t_input q_t_output q_t_planned q_t_came q_t_rank t_thrown t_oldMany t_savedSet t_inputMany t_outputMany t_errorCode t_errorPosition t_top t_ahead t_round t_loudest t_textEnd t_kind t_from t_to t_value t_fault t_faultAt t_live t_measure t_now t_weight) H → va_D A (wd_X6_solved cI cZ cB cG q_t q_t_live q_t_measure q_t_now q_t_weight q_t_keys q_t_aside q_t_old q_t_saved q_t_input q_t_output q_t_planned q_t_came q_t_rank t_thrown t_oldMany t_savedSet t_inputMany t_outputMany t_errorCode t_errorPosition t_top t_ahead t_round t_loudest t_textEnd t_kind t_from t_to t_value t_fault t_faultAt t_live t_measure t_now t_weight) → va_S A s.heap H locs → lv_has ls 4 [(0, .ref q_t)] → W p l e (rm_X6_solved) s m args below meth c H locs 0 0 Q (F0 m 29 ls []))  (n : Nat) (v1 : Int32) (t_measure : (Nat → Int32)) (H : Heap) (locs : List Loc) (ls : Array Slot), fx2 (F_X6_solved_6 t_now K0) n v1 t_measure → va_P D vwCl (wd_X6_solved cI cZ cB cG q_t q_t_live q_t_measure q_t_now q_t_weight q_t_keys q_t_aside q_t_old q_t_saved q_t_input q_t_output q_t_planned q_t_came q_t_rank t_thrown t_oldMany t_savedSet t_inputMany t_outputMany t_errorCode t_errorPosition t_top t_ahead t_round t_loudest t_textEnd t_kind t_from t_to t_value t_fault t_faultAt t_live t_measure t_now t_weight) H → va_D A (wd_X6_solved cI cZ cB cG q_t q_t_live q_t_measure q_t_now q_t_weight q_t_keys q_t_aside q_t_old q_t_saved q_t_input q_t_output q_t_planned q_t_came q_t_rank t_thrown t_oldMany t_savedSet t_inputMany t_outputMany t_errorCode t_errorPosition t_top t_ahead t_round t_loudest t_textEnd t_kind t_from t_to t_value t_fault t_faultAt t_live t_measure t_now t_weight) → va_S A s.heap H locs → lv_has ls 4 [(0, .ref q_t), (1, .int v1)] → W p l e (rm_X6_solved) s m args below meth c H locs 0 0 Q (F0 m 6 ls []) := by
    intro t_top t_weight K0 hK0 n
    induction n with
    | zero => intro v1 t_measure H locs ls hf; exact (hf : False).elim
    | succ n ih =>
      intro v1 t_measure H locs ls hf hP hD hS hl
      have hf : F_X6_solved_6 t_now K0 (fx2 (F_X6_solved_6 t_now K0) n) v1 t_measure := hf
      unfold F_X6_solved_6 at hf
      refine lv_iload_n hx hb dX6_solved_6 rfl (lv_at hl 1 rfl) ?_
      refine lv_aload_n hx hb dX6_solved_7 rfl (lv_at hl 0 rfl) ?_
      refine va_get (D := D) (ci := 6) (v := .ref q_t_now) (C := RX6) (T := TX6) (N := 31) hx hb hts hinX6 hown hK hP 0 rfl rfl 2 (by decide) k13 (fun _ h9 => h9) rfl dX6_solved_8 ?_
      refine lv_iconst (v := (0 : Int32)) hx hb dX6_solved_11 (by decide) ?_
      refine va_iald hx hb hK hP 3 0 rfl rfl (n := 176) (by unfold vp_in; decide) dX6_solved_12 ?_
      refine lv_icmp_ge (tgt := 29) hx hb dX6_solved_13 (by decide) (fun hc => ?_) (fun hc => ?_)
      · have hf := hf.1 hc
        exact hK0 _ _ _ _ _ hf hP hD hS (lv_sub hl [0] rfl)
      · have hf := hf.2 hc
        refine lv_aload_n hx hb dX6_solved_16 rfl (lv_at hl 0 rfl) ?_
        refine va_get (D := D) (ci := 6) (v := .ref q_t_measure) (C := RX6) (T := TX6) (N := 31) hx hb hts hinX6 hown hK hP 0 rfl rfl 16 (by decide) k42 (fun _ h9 => h9) rfl dX6_solved_17 ?_
        refine lv_iload_n hx hb dX6_solved_20 rfl (lv_at hl 1 rfl) ?_
        refine lv_iconst (v := (0 : Int32)) hx hb dX6_solved_21 (by decide) ?_
        refine va_iast hx hb hK hP hD hS 2 0 rfl rfl (n := 20) hf.1 dX6_solved_22 (fun H locs hP hD hS => ?_)
        have hf := hf.2
        have hP : va_P D vwCl (wd_X6_solved cI cZ cB cG q_t q_t_live q_t_measure q_t_now q_t_weight q_t_keys q_t_aside q_t_old q_t_saved q_t_input q_t_output q_t_planned q_t_came q_t_rank t_thrown t_oldMany t_savedSet t_inputMany t_outputMany t_errorCode t_errorPosition t_top t_ahead t_round t_loudest t_textEnd t_kind t_from t_to t_value t_fault t_faultAt t_live ((upd t_measure v1.toNatClampNeg (0 : Int32))) t_now t_weight) H := hP
        have hD : va_D A (wd_X6_solved cI cZ cB cG q_t q_t_live q_t_measure q_t_now q_t_weight q_t_keys q_t_aside q_t_old q_t_saved q_t_input q_t_output q_t_planned q_t_came q_t_rank t_thrown t_oldMany t_savedSet t_inputMany t_outputMany t_errorCode t_errorPosition t_top t_ahead t_round t_loudest t_textEnd t_kind t_from t_to t_value t_fault t_faultAt t_live ((upd t_measure v1.toNatClampNeg (0 : Int32))) t_now t_weight) := hD
        refine lv_iinc (v := (v1 + (1 : Int32))) (lv' := [(1, .int ((v1 + (1 : Int32)))), (0, .ref q_t)]) hx hb dX6_solved_23 hl (k := 1) rfl rfl (by decide) rfl (fun ls hl => ?_)
        refine lv_goto (tgt := 6) hx hb dX6_solved_26 (by decide) ?_
        exact ih _ _ _ _ _ hf hP hD hS (lv_sub hl [1, 0] rfl)
  have L39 : ∀ (t_top : Int32) (t_weight : (Nat → Int32)) (K0 : Int32 → Int32 → (Nat → Int32) → Prop) (_ : ∀ (v1 : Int32) (v2 : Int32) (t_measure : (Nat → Int32)) (H : Heap) (locs : List Loc) (ls : Array Slot), K0 v1 v2 t_measure → va_P D vwCl (wd_X6_solved cI cZ cB cG q_t q_t_live q_t_measure q_t_now q_t_weight q_t_keys q_t_aside q_t_old q_t_saved q_t_input q_t_output q_t_planned q_t_came q_t_rank t_thrown t_oldMany t_savedSet t_inputMany t_outputMany t_errorCode t_errorPosition t_top t_ahead t_round t_loudest t_textEnd t_kind t_from t_to t_value t_fault t_faultAt t_live t_measure t_now t_weight) H → va_D A (wd_X6_solved cI cZ cB cG q_t q_t_live q_t_measure q_t_now q_t_weight q_t_keys q_t_aside q_t_old q_t_saved q_t_input q_t_output q_t_planned q_t_came q_t_rank t_thrown t_oldMany t_savedSet t_inputMany t_outputMany t_errorCode t_errorPosition t_top t_ahead t_round t_loudest t_textEnd t_kind t_from t_to t_value t_fault t_faultAt t_live t_measure t_now t_weight) → va_S A s.heap H locs → lv_has ls 4 [(0, .ref q_t), (1, .int v1)] → W p l e (rm_X6_solved) s m args below meth c H locs 0 0 Q (F0 m 80 ls []))  (n : Nat) (v1 : Int32) (v2 : Int32) (t_measure : (Nat → Int32)) (H : Heap) (locs : List Loc) (ls : Array Slot), fx3 (F_X6_solved_39 t_top t_weight t_live t_now K0) n v1 v2 t_measure → va_P D vwCl (wd_X6_solved cI cZ cB cG q_t q_t_live q_t_measure q_t_now q_t_weight q_t_keys q_t_aside q_t_old q_t_saved q_t_input q_t_output q_t_planned q_t_came q_t_rank t_thrown t_oldMany t_savedSet t_inputMany t_outputMany t_errorCode t_errorPosition t_top t_ahead t_round t_loudest t_textEnd t_kind t_from t_to t_value t_fault t_faultAt t_live t_measure t_now t_weight) H → va_D A (wd_X6_solved cI cZ cB cG q_t q_t_live q_t_measure q_t_now q_t_weight q_t_keys q_t_aside q_t_old q_t_saved q_t_input q_t_output q_t_planned q_t_came q_t_rank t_thrown t_oldMany t_savedSet t_inputMany t_outputMany t_errorCode t_errorPosition t_top t_ahead t_round t_loudest t_textEnd t_kind t_from t_to t_value t_fault t_faultAt t_live t_measure t_now t_weight) → va_S A s.heap H locs → lv_has ls 4 [(0, .ref q_t), (1, .int v1), (2, .int v2)] → W p l e (rm_X6_solved) s m args below meth c H locs 0 0 Q (F0 m 39 ls []) := by
    intro t_top t_weight K0 hK0 n
    induction n with
    | zero => intro v1 v2 t_measure H locs ls hf; exact (hf : False).elim
    | succ n ih =>
      intro v1 v2 t_measure H locs ls hf hP hD hS hl
      have hf : F_X6_solved_39 t_top t_weight t_live t_now K0 (fx3 (F_X6_solved_39 t_top t_weight t_live t_now K0) n) v1 v2 t_measure := hf
      unfold F_X6_solved_39 at hf
      refine lv_iload_n hx hb dX6_solved_39 rfl (lv_at hl 2 rfl) ?_
      refine lv_aload_n hx hb dX6_solved_40 rfl (lv_at hl 0 rfl) ?_
      refine va_get (D := D) (ci := 6) (v := .ref q_t_now) (C := RX6) (T := TX6) (N := 31) hx hb hts hinX6 hown hK hP 0 rfl rfl 2 (by decide) k13 (fun _ h9 => h9) rfl dX6_solved_41 ?_
      refine lv_iconst (v := (0 : Int32)) hx hb dX6_solved_44 (by decide) ?_
      refine va_iald hx hb hK hP 3 0 rfl rfl (n := 176) (by unfold vp_in; decide) dX6_solved_45 ?_
      refine lv_icmp_ge (tgt := 80) hx hb dX6_solved_46 (by decide) (fun hc => ?_) (fun hc => ?_)
      · have hf := hf.1 hc
        exact hK0 _ _ _ _ _ _ hf hP hD hS (lv_sub hl [0, 1] rfl)
      · have hf := hf.2 hc
        refine lv_aload_n hx hb dX6_solved_49 rfl (lv_at hl 0 rfl) ?_
        refine lv_iload_n hx hb dX6_solved_50 rfl (lv_at hl 2 rfl) ?_
        have hPc := hP.sub (ws' := (wd_X6_lifted cI cZ cB cG q_t q_t_live q_t_measure q_t_now q_t_weight q_t_keys q_t_aside q_t_old q_t_saved q_t_input q_t_output q_t_planned q_t_came q_t_rank t_thrown t_oldMany t_savedSet t_inputMany t_outputMany t_errorCode t_errorPosition t_top t_ahead t_round t_loudest t_textEnd t_kind t_from t_to t_value t_fault t_faultAt t_live t_measure t_now t_weight)) [0, 1, 2, 3, 4] rfl
        have hDc := hD.sub (ws' := (wd_X6_lifted cI cZ cB cG q_t q_t_live q_t_measure q_t_now q_t_weight q_t_keys q_t_aside q_t_old q_t_saved q_t_input q_t_output q_t_planned q_t_came q_t_rank t_thrown t_oldMany t_savedSet t_inputMany t_outputMany t_errorCode t_errorPosition t_top t_ahead t_round t_loudest t_textEnd t_kind t_from t_to t_value t_fault t_faultAt t_live t_measure t_now t_weight)) [0, 1, 2, 3, 4] (by decide +kernel) rfl
        have hFc := va_free (wc := (wd_X6_lifted cI cZ cB cG q_t q_t_live q_t_measure q_t_now q_t_weight q_t_keys q_t_aside q_t_old q_t_saved q_t_input q_t_output q_t_planned q_t_came q_t_rank t_thrown t_oldMany t_savedSet t_inputMany t_outputMany t_errorCode t_errorPosition t_top t_ahead t_round t_loudest t_textEnd t_kind t_from t_to t_value t_fault t_faultAt t_live t_measure t_now t_weight)) hD hS hA [0, 1, 2, 3, 4] rfl
        refine va_calli (va_runV (As := [.int v2]) (rest := []) ⟨hx, hb, hml, hown, hts⟩ (c_X6_lifted l D X cI cZ cB cG H.size q_t q_t_live q_t_measure q_t_now q_t_weight q_t_keys q_t_aside q_t_old q_t_saved q_t_input q_t_output q_t_planned q_t_came q_t_rank v2 t_thrown t_oldMany t_savedSet t_inputMany t_outputMany t_errorCode t_errorPosition t_top t_ahead t_round t_loudest t_textEnd t_kind t_from t_to t_value t_fault t_faultAt t_live t_measure t_now t_weight _ hf) (cwV 1 hts gX6_solved_X6_lifted rfl rfl rfl (by decide +kernel) ⟨Nat.le_of_ble_eq_true rfl, Nat.le_of_ble_eq_true rfl⟩) ⟨g_blind, va_recv hK hPc (ci := 6) (q0 := 0) rfl rfl, fun U hU hW => g_side hU hW hPc hK hDc hE hS hFc⟩ rfl rfl hl.1 rfl (lv_room (Nat.le_of_ble_eq_true rfl)) dX6_solved_51 ⟨Nat.zero_le _, Nat.zero_le _⟩) hS (fun q _ h => hFc q h) hFc (fun r_6 u t H1 locs ht hvm hw hB hz1 hk1 hS => ?_)
        obtain ⟨hP1, hK1, hD1⟩ := hB
        rw [ht] at hP1
        obtain ⟨hP, hD⟩ := g_back (wc := (wd_X6_lifted cI cZ cB cG q_t q_t_live q_t_measure q_t_now q_t_weight q_t_keys q_t_aside q_t_old q_t_saved q_t_input q_t_output q_t_planned q_t_came q_t_rank t_thrown t_oldMany t_savedSet t_inputMany t_outputMany t_errorCode t_errorPosition t_top t_ahead t_round t_loudest t_textEnd t_kind t_from t_to t_value t_fault t_faultAt t_live t_measure t_now t_weight)) (w1 := (wd_X6_lifted cI cZ cB cG q_t q_t_live q_t_measure q_t_now q_t_weight q_t_keys q_t_aside q_t_old q_t_saved q_t_input q_t_output q_t_planned q_t_came q_t_rank t_thrown t_oldMany t_savedSet t_inputMany t_outputMany t_errorCode t_errorPosition t_top t_ahead t_round t_loudest t_textEnd t_kind t_from t_to t_value t_fault t_faultAt t_live t_measure t_now t_weight)) hP hD [0, 1, 2, 3, 4] rfl rfl hk1 hP1
        have hP : va_P D vwCl (wd_X6_solved cI cZ cB cG q_t q_t_live q_t_measure q_t_now q_t_weight q_t_keys q_t_aside q_t_old q_t_saved q_t_input q_t_output q_t_planned q_t_came q_t_rank t_thrown t_oldMany t_savedSet t_inputMany t_outputMany t_errorCode t_errorPosition t_top t_ahead t_round t_loudest t_textEnd t_kind t_from t_to t_value t_fault t_faultAt t_live t_measure t_now t_weight) H1 := hP
        have hD : va_D A (wd_X6_solved cI cZ cB cG q_t q_t_live q_t_measure q_t_now q_t_weight q_t_keys q_t_aside q_t_old q_t_saved q_t_input q_t_output q_t_planned q_t_came q_t_rank t_thrown t_oldMany t_savedSet t_inputMany t_outputMany t_errorCode t_errorPosition t_top t_ahead t_round t_loudest t_textEnd t_kind t_from t_to t_value t_fault t_faultAt t_live t_measure t_now t_weight) := hD
        have hf := hw
        generalize H1 = H at hP hS ⊢
        refine lv_istore_n (lv' := [(3, .int r_6), (0, .ref q_t), (1, .int v1), (2, .int v2)]) hx hb dX6_solved_54 rfl hl (by decide) rfl (fun ls hl => ?_)
        refine lv_iload_n hx hb dX6_solved_55 rfl (lv_at hl 0 rfl) ?_
        refine lv_aload_n hx hb dX6_solved_56 rfl (lv_at hl 1 rfl) ?_
        refine va_get (D := D) (ci := 6) (v := .ref q_t_measure) (C := RX6) (T := TX6) (N := 31) hx hb hts hinX6 hown hK hP 0 rfl rfl 16 (by decide) k42 (fun _ h9 => h9) rfl dX6_solved_57 ?_
        refine lv_iload_n hx hb dX6_solved_60 rfl (lv_at hl 3 rfl) ?_
        refine va_iald hx hb hK hP 2 0 rfl rfl (n := 20) hf.1 dX6_solved_61 ?_
        have hf := hf.2
        refine lv_icmp_le (tgt := 74) hx hb dX6_solved_62 (by decide) (fun hc => ?_) (fun hc => ?_)
        · have hf := hf.1 hc
          refine lv_iinc (v := (v2 + (1 : Int32))) (lv' := [(2, .int ((v2 + (1 : Int32)))), (3, .int r_6), (0, .ref q_t), (1, .int v1)]) hx hb dX6_solved_74 hl (k := 3) rfl rfl (by decide) rfl (fun ls hl => ?_)
          refine lv_goto (tgt := 39) hx hb dX6_solved_77 (by decide) ?_
          exact ih _ _ _ _ _ _ hf hP hD hS (lv_sub hl [2, 3, 0] rfl)
        · have hf := hf.2 hc
          refine lv_aload_n hx hb dX6_solved_65 rfl (lv_at hl 1 rfl) ?_
          refine va_get (D := D) (ci := 6) (v := .ref q_t_measure) (C := RX6) (T := TX6) (N := 31) hx hb hts hinX6 hown hK hP 0 rfl rfl 16 (by decide) k42 (fun _ h9 => h9) rfl dX6_solved_66 ?_
          refine lv_iload_n hx hb dX6_solved_69 rfl (lv_at hl 3 rfl) ?_
          refine lv_iload_n hx hb dX6_solved_70 rfl (lv_at hl 0 rfl) ?_
          refine va_iast hx hb hK hP hD hS 2 0 rfl rfl (n := 20) hf.1 dX6_solved_71 (fun H locs hP hD hS => ?_)
          have hf := hf.2
          have hP : va_P D vwCl (wd_X6_solved cI cZ cB cG q_t q_t_live q_t_measure q_t_now q_t_weight q_t_keys q_t_aside q_t_old q_t_saved q_t_input q_t_output q_t_planned q_t_came q_t_rank t_thrown t_oldMany t_savedSet t_inputMany t_outputMany t_errorCode t_errorPosition t_top t_ahead t_round t_loudest t_textEnd t_kind t_from t_to t_value t_fault t_faultAt t_live (upd t_measure v2.toNatClampNeg r_6) t_now t_weight) H := hP
          have hD : va_D A (wd_X6_solved cI cZ cB cG q_t q_t_live q_t_measure q_t_now q_t_weight q_t_keys q_t_aside q_t_old q_t_saved q_t_input q_t_output q_t_planned q_t_came q_t_rank t_thrown t_oldMany t_savedSet t_inputMany t_outputMany t_errorCode t_errorPosition t_top t_ahead t_round t_loudest t_textEnd t_kind t_from t_to t_value t_fault t_faultAt t_live (upd t_measure v2.toNatClampNeg r_6) t_now t_weight) := hD
          refine lv_iconst (v := (1 : Int32)) hx hb dX6_solved_72 (by decide) ?_
          refine lv_istore_n (lv' := [(1, .int (1 : Int32)), (3, .int r_6), (0, .ref q_t), (2, .int v2)]) hx hb dX6_solved_73 rfl hl (by decide) rfl (fun ls hl => ?_)
          refine lv_iinc (v := (v2 + (1 : Int32))) (lv' := [(2, .int ((v2 + (1 : Int32)))), (1, .int (1 : Int32)), (3, .int r_6), (0, .ref q_t)]) hx hb dX6_solved_74 hl (k := 3) rfl rfl (by decide) rfl (fun ls hl => ?_)
          refine lv_goto (tgt := 39) hx hb dX6_solved_77 (by decide) ?_
          exact ih _ _ _ _ _ _ hf hP hD hS (lv_sub hl [3, 1, 0] rfl)
  have L31 : ∀ (t_top : Int32) (t_weight : (Nat → Int32)) (K0 : Int32 → (Nat → Int32) → Prop) (_ : ∀ (v1 : Int32) (t_measure : (Nat → Int32)) (H : Heap) (locs : List Loc) (ls : Array Slot), K0 v1 t_measure → va_P D vwCl (wd_X6_solved cI cZ cB cG q_t q_t_live q_t_measure q_t_now q_t_weight q_t_keys q_t_aside q_t_old q_t_saved q_t_input q_t_output q_t_planned q_t_came q_t_rank t_thrown t_oldMany t_savedSet t_inputMany t_outputMany t_errorCode t_errorPosition t_top t_ahead t_round t_loudest t_textEnd t_kind t_from t_to t_value t_fault t_faultAt t_live t_measure t_now t_weight) H → va_D A (wd_X6_solved cI cZ cB cG q_t q_t_live q_t_measure q_t_now q_t_weight q_t_keys q_t_aside q_t_old q_t_saved q_t_input q_t_output q_t_planned q_t_came q_t_rank t_thrown t_oldMany t_savedSet t_inputMany t_outputMany t_errorCode t_errorPosition t_top t_ahead t_round t_loudest t_textEnd t_kind t_from t_to t_value t_fault t_faultAt t_live t_measure t_now t_weight) → va_S A s.heap H locs → lv_has ls 4 [(0, .ref q_t)] → W p l e (rm_X6_solved) s m args below meth c H locs 0 0 Q (F0 m 83 ls []))  (n : Nat) (v1 : Int32) (t_measure : (Nat → Int32)) (H : Heap) (locs : List Loc) (ls : Array Slot), fx2 (F_X6_solved_31 t_top t_weight t_live t_now K0) n v1 t_measure → va_P D vwCl (wd_X6_solved cI cZ cB cG q_t q_t_live q_t_measure q_t_now q_t_weight q_t_keys q_t_aside q_t_old q_t_saved q_t_input q_t_output q_t_planned q_t_came q_t_rank t_thrown t_oldMany t_savedSet t_inputMany t_outputMany t_errorCode t_errorPosition t_top t_ahead t_round t_loudest t_textEnd t_kind t_from t_to t_value t_fault t_faultAt t_live t_measure t_now t_weight) H → va_D A (wd_X6_solved cI cZ cB cG q_t q_t_live q_t_measure q_t_now q_t_weight q_t_keys q_t_aside q_t_old q_t_saved q_t_input q_t_output q_t_planned q_t_came q_t_rank t_thrown t_oldMany t_savedSet t_inputMany t_outputMany t_errorCode t_errorPosition t_top t_ahead t_round t_loudest t_textEnd t_kind t_from t_to t_value t_fault t_faultAt t_live t_measure t_now t_weight) → va_S A s.heap H locs → lv_has ls 4 [(0, .ref q_t), (1, .int v1)] → W p l e (rm_X6_solved) s m args below meth c H locs 0 0 Q (F0 m 31 ls []) := by
    intro t_top t_weight K0 hK0 n
    induction n with
    | zero => intro v1 t_measure H locs ls hf; exact (hf : False).elim
    | succ n ih =>
      intro v1 t_measure H locs ls hf hP hD hS hl
      have hf : F_X6_solved_31 t_top t_weight t_live t_now K0 (fx2 (F_X6_solved_31 t_top t_weight t_live t_now K0) n) v1 t_measure := hf
      unfold F_X6_solved_31 at hf
      refine lv_iload_n hx hb dX6_solved_31 rfl (lv_at hl 1 rfl) ?_
      refine lv_if_eq (tgt := 83) hx hb dX6_solved_32 (by decide) (fun hc => ?_) (fun hc => ?_)
      · have hf := hf.1 hc
        exact hK0 _ _ _ _ _ hf hP hD hS (lv_sub hl [0] rfl)
      · have hf := hf.2 hc
        refine lv_iconst (v := (0 : Int32)) hx hb dX6_solved_35 (by decide) ?_
        refine lv_istore_n (lv' := [(1, .int (0 : Int32)), (0, .ref q_t)]) hx hb dX6_solved_36 rfl hl (by decide) rfl (fun ls hl => ?_)
        refine lv_iconst (v := (0 : Int32)) hx hb dX6_solved_37 (by decide) ?_
        refine lv_istore_n (lv' := [(2, .int (0 : Int32)), (1, .int (0 : Int32)), (0, .ref q_t)]) hx hb dX6_solved_38 rfl hl (by decide) rfl (fun ls hl => ?_)
        obtain ⟨n, hf⟩ := hf
        refine L39 t_top t_weight _ ?_  n _ _ _ _ _ _ hf hP hD hS (lv_sub hl [2, 1, 0] rfl)
        intro v1_7 v2_8 t_measure_9 H locs ls hf hP hD hS hl
        refine lv_goto (tgt := 31) hx hb dX6_solved_80 (by decide) ?_
        exact ih _ _ _ _ _ hf hP hD hS (lv_sub hl [0, 1] rfl)
  have L87 : ∀ (t_top : Int32) (t_measure : (Nat → Int32)) (t_weight : (Nat → Int32)) (K0 : Int32 → Int32 → Prop) (_ : ∀ (v2 : Int32) (v3 : Int32) (H : Heap) (locs : List Loc) (ls : Array Slot), K0 v2 v3 → va_P D vwCl (wd_X6_solved cI cZ cB cG q_t q_t_live q_t_measure q_t_now q_t_weight q_t_keys q_t_aside q_t_old q_t_saved q_t_input q_t_output q_t_planned q_t_came q_t_rank t_thrown t_oldMany t_savedSet t_inputMany t_outputMany t_errorCode t_errorPosition t_top t_ahead t_round t_loudest t_textEnd t_kind t_from t_to t_value t_fault t_faultAt t_live t_measure t_now t_weight) H → va_D A (wd_X6_solved cI cZ cB cG q_t q_t_live q_t_measure q_t_now q_t_weight q_t_keys q_t_aside q_t_old q_t_saved q_t_input q_t_output q_t_planned q_t_came q_t_rank t_thrown t_oldMany t_savedSet t_inputMany t_outputMany t_errorCode t_errorPosition t_top t_ahead t_round t_loudest t_textEnd t_kind t_from t_to t_value t_fault t_faultAt t_live t_measure t_now t_weight) → va_S A s.heap H locs → lv_has ls 4 [(2, .int v2)] → W p l e (rm_X6_solved) s m args below meth c H locs 0 0 Q (F0 m 126 ls []))  (n : Nat) (v2 : Int32) (v3 : Int32) (H : Heap) (locs : List Loc) (ls : Array Slot), fx2 (F_X6_solved_87 t_top t_measure t_now K0) n v2 v3 → va_P D vwCl (wd_X6_solved cI cZ cB cG q_t q_t_live q_t_measure q_t_now q_t_weight q_t_keys q_t_aside q_t_old q_t_saved q_t_input q_t_output q_t_planned q_t_came q_t_rank t_thrown t_oldMany t_savedSet t_inputMany t_outputMany t_errorCode t_errorPosition t_top t_ahead t_round t_loudest t_textEnd t_kind t_from t_to t_value t_fault t_faultAt t_live t_measure t_now t_weight) H → va_D A (wd_X6_solved cI cZ cB cG q_t q_t_live q_t_measure q_t_now q_t_weight q_t_keys q_t_aside q_t_old q_t_saved q_t_input q_t_output q_t_planned q_t_came q_t_rank t_thrown t_oldMany t_savedSet t_inputMany t_outputMany t_errorCode t_errorPosition t_top t_ahead t_round t_loudest t_textEnd t_kind t_from t_to t_value t_fault t_faultAt t_live t_measure t_now t_weight) → va_S A s.heap H locs → lv_has ls 4 [(0, .ref q_t), (2, .int v2), (3, .int v3)] → W p l e (rm_X6_solved) s m args below meth c H locs 0 0 Q (F0 m 87 ls []) := by
    intro t_top t_measure t_weight K0 hK0 n
    induction n with
    | zero => intro v2 v3 H locs ls hf; exact (hf : False).elim
    | succ n ih =>
      intro v2 v3 H locs ls hf hP hD hS hl
      have hf : F_X6_solved_87 t_top t_measure t_now K0 (fx2 (F_X6_solved_87 t_top t_measure t_now K0) n) v2 v3 := hf
      unfold F_X6_solved_87 at hf
      refine lv_iload_n hx hb dX6_solved_87 rfl (lv_at hl 2 rfl) ?_
      refine lv_aload_n hx hb dX6_solved_88 rfl (lv_at hl 0 rfl) ?_
      refine va_get (D := D) (ci := 6) (v := .ref q_t_now) (C := RX6) (T := TX6) (N := 31) hx hb hts hinX6 hown hK hP 0 rfl rfl 2 (by decide) k13 (fun _ h9 => h9) rfl dX6_solved_89 ?_
      refine lv_iconst (v := (0 : Int32)) hx hb dX6_solved_92 (by decide) ?_
      refine va_iald hx hb hK hP 3 0 rfl rfl (n := 176) (by unfold vp_in; decide) dX6_solved_93 ?_
      refine lv_icmp_ge (tgt := 126) hx hb dX6_solved_94 (by decide) (fun hc => ?_) (fun hc => ?_)
      · have hf := hf.1 hc
        exact hK0 _ _ _ _ _ hf hP hD hS (lv_sub hl [1] rfl)
      · have hf := hf.2 hc
        refine lv_iload_n hx hb dX6_solved_97 rfl (lv_at hl 1 rfl) ?_
        refine lv_aload_n hx hb dX6_solved_98 rfl (lv_at hl 0 rfl) ?_
        refine va_get (D := D) (ci := 6) (v := .ref q_t_measure) (C := RX6) (T := TX6) (N := 31) hx hb hts hinX6 hown hK hP 0 rfl rfl 16 (by decide) k42 (fun _ h9 => h9) rfl dX6_solved_99 ?_
        refine lv_iload_n hx hb dX6_solved_102 rfl (lv_at hl 2 rfl) ?_
        refine va_iald hx hb hK hP 2 0 rfl rfl (n := 20) hf.1 dX6_solved_103 ?_
        have hf := hf.2
        refine lv_aload_n hx hb dX6_solved_104 rfl (lv_at hl 0 rfl) ?_
        refine va_get (D := D) (ci := 6) (v := .int t_top) (C := RX6) (T := TX6) (N := 31) hx hb hts hinX6 hown hK hP 0 rfl rfl 17 (by decide) k75 (fun _ h9 => h9) rfl dX6_solved_105 ?_
        refine lv_icmp_ge (tgt := 117) hx hb dX6_solved_108 (by decide) (fun hc => ?_) (fun hc => ?_)
        · have hf := hf.1 hc
          refine lv_iconst (v := (0 : Int32)) hx hb dX6_solved_117 (by decide) ?_
          refine lv_ior hx hb dX6_solved_118 ?_
          refine lv_istore_n (lv' := [(2, .int ((v2 ||| (0 : Int32)))), (0, .ref q_t), (3, .int v3)]) hx hb dX6_solved_119 rfl hl (by decide) rfl (fun ls hl => ?_)
          refine lv_iinc (v := (v3 + (1 : Int32))) (lv' := [(3, .int ((v3 + (1 : Int32)))), (2, .int ((v2 ||| (0 : Int32)))), (0, .ref q_t)]) hx hb dX6_solved_120 hl (k := 2) rfl rfl (by decide) rfl (fun ls hl => ?_)
          refine lv_goto (tgt := 87) hx hb dX6_solved_123 (by decide) ?_
          exact ih _ _ _ _ _ hf hP hD hS (lv_sub hl [2, 1, 0] rfl)
        · have hf := hf.2 hc
          refine lv_iconst (v := (1 : Int32)) hx hb dX6_solved_111 (by decide) ?_
          refine lv_iload_n hx hb dX6_solved_112 rfl (lv_at hl 2 rfl) ?_
          refine lv_ishl hx hb dX6_solved_113 ?_
          refine lv_goto (tgt := 118) hx hb dX6_solved_114 (by decide) ?_
          refine lv_ior hx hb dX6_solved_118 ?_
          refine lv_istore_n (lv' := [(2, .int ((v2 ||| ((1 : Int32) <<< (v3 &&& 31))))), (0, .ref q_t), (3, .int v3)]) hx hb dX6_solved_119 rfl hl (by decide) rfl (fun ls hl => ?_)
          refine lv_iinc (v := (v3 + (1 : Int32))) (lv' := [(3, .int ((v3 + (1 : Int32)))), (2, .int ((v2 ||| ((1 : Int32) <<< (v3 &&& 31))))), (0, .ref q_t)]) hx hb dX6_solved_120 hl (k := 2) rfl rfl (by decide) rfl (fun ls hl => ?_)
          refine lv_goto (tgt := 87) hx hb dX6_solved_123 (by decide) ?_
          exact ih _ _ _ _ _ hf hP hD hS (lv_sub hl [2, 1, 0] rfl)
  unfold wp_X6_solved at hf
  refine lv_aload_n hx hb dX6_solved_0 rfl (lv_at hl 0 rfl) ?_
  have hPc := hP.sub (ws' := (wd_X6_weighs cI cZ cB cG q_t q_t_now q_t_weight q_t_keys q_t_aside q_t_old q_t_saved q_t_input q_t_output q_t_live q_t_measure q_t_planned q_t_came q_t_rank t_thrown t_oldMany t_savedSet t_inputMany t_outputMany t_errorCode t_errorPosition t_top t_ahead t_round t_loudest t_textEnd t_kind t_from t_to t_value t_fault t_faultAt t_now t_weight)) [0, 3, 4] rfl
  have hDc := hD.sub (ws' := (wd_X6_weighs cI cZ cB cG q_t q_t_now q_t_weight q_t_keys q_t_aside q_t_old q_t_saved q_t_input q_t_output q_t_live q_t_measure q_t_planned q_t_came q_t_rank t_thrown t_oldMany t_savedSet t_inputMany t_outputMany t_errorCode t_errorPosition t_top t_ahead t_round t_loudest t_textEnd t_kind t_from t_to t_value t_fault t_faultAt t_now t_weight)) [0, 3, 4] (by decide +kernel) rfl
  have hFc := va_free (wc := (wd_X6_weighs cI cZ cB cG q_t q_t_now q_t_weight q_t_keys q_t_aside q_t_old q_t_saved q_t_input q_t_output q_t_live q_t_measure q_t_planned q_t_came q_t_rank t_thrown t_oldMany t_savedSet t_inputMany t_outputMany t_errorCode t_errorPosition t_top t_ahead t_round t_loudest t_textEnd t_kind t_from t_to t_value t_fault t_faultAt t_now t_weight)) hD hS hA [0, 3, 4] rfl
  refine va_callv (va_runV (As := []) (rest := []) ⟨hx, hb, hml, hown, hts⟩ (c_X6_weighs l D X cI cZ cB cG H.size q_t q_t_now q_t_weight q_t_keys q_t_aside q_t_old q_t_saved q_t_input q_t_output q_t_live q_t_measure q_t_planned q_t_came q_t_rank t_thrown t_oldMany t_savedSet t_inputMany t_outputMany t_errorCode t_errorPosition t_top t_ahead t_round t_loudest t_textEnd t_kind t_from t_to t_value t_fault t_faultAt t_now t_weight _ hf) (cwV 0 hts gX6_solved_X6_weighs rfl rfl rfl (by decide +kernel) ⟨Nat.le_of_ble_eq_true rfl, Nat.le_of_ble_eq_true rfl⟩) ⟨g_blind, va_recv hK hPc (ci := 6) (q0 := 0) rfl rfl, fun U hU hW => g_side hU hW hPc hK hDc hE hS hFc⟩ rfl rfl hl.1 rfl (lv_room (Nat.le_of_ble_eq_true rfl)) dX6_solved_1 ⟨Nat.zero_le _, Nat.zero_le _⟩) hS (fun q _ h => hFc q h) hFc (fun u t H1 locs ht hvm hw hB hz1 hk1 hS => ?_)
  obtain ⟨t_top_2, t_weight_3⟩ := u
  obtain ⟨hP1, hK1, hD1⟩ := hB
  rw [ht] at hP1
  obtain ⟨hP, hD⟩ := g_back (wc := (wd_X6_weighs cI cZ cB cG q_t q_t_now q_t_weight q_t_keys q_t_aside q_t_old q_t_saved q_t_input q_t_output q_t_live q_t_measure q_t_planned q_t_came q_t_rank t_thrown t_oldMany t_savedSet t_inputMany t_outputMany t_errorCode t_errorPosition t_top t_ahead t_round t_loudest t_textEnd t_kind t_from t_to t_value t_fault t_faultAt t_now t_weight)) (w1 := (wd_X6_weighs cI cZ cB cG q_t q_t_now q_t_weight q_t_keys q_t_aside q_t_old q_t_saved q_t_input q_t_output q_t_live q_t_measure q_t_planned q_t_came q_t_rank t_thrown t_oldMany t_savedSet t_inputMany t_outputMany t_errorCode t_errorPosition t_top_2 t_ahead t_round t_loudest t_textEnd t_kind t_from t_to t_value t_fault t_faultAt t_now t_weight_3)) hP hD [0, 3, 4] rfl rfl hk1 hP1
  have hP : va_P D vwCl (wd_X6_solved cI cZ cB cG q_t q_t_live q_t_measure q_t_now q_t_weight q_t_keys q_t_aside q_t_old q_t_saved q_t_input q_t_output q_t_planned q_t_came q_t_rank t_thrown t_oldMany t_savedSet t_inputMany t_outputMany t_errorCode t_errorPosition t_top_2 t_ahead t_round t_loudest t_textEnd t_kind t_from t_to t_value t_fault t_faultAt t_live t_measure t_now t_weight_3) H1 := hP
  have hD : va_D A (wd_X6_solved cI cZ cB cG q_t q_t_live q_t_measure q_t_now q_t_weight q_t_keys q_t_aside q_t_old q_t_saved q_t_input q_t_output q_t_planned q_t_came q_t_rank t_thrown t_oldMany t_savedSet t_inputMany t_outputMany t_errorCode t_errorPosition t_top_2 t_ahead t_round t_loudest t_textEnd t_kind t_from t_to t_value t_fault t_faultAt t_live t_measure t_now t_weight_3) := hD
  have hf := hw
  generalize H1 = H at hP hS ⊢
  refine lv_iconst (v := (0 : Int32)) hx hb dX6_solved_4 (by decide) ?_
  refine lv_istore_n (lv' := [(1, .int (0 : Int32)), (0, .ref q_t)]) hx hb dX6_solved_5 rfl hl (by decide) rfl (fun ls hl => ?_)
  obtain ⟨n, hf⟩ := hf
  refine L6 t_top_2 t_weight_3 _ ?_  n _ _ _ _ _ hf hP hD hS (lv_sub hl [1, 0] rfl)
  intro v1_4 t_measure_5 H locs ls hf hP hD hS hl
  refine lv_iconst (v := (1 : Int32)) hx hb dX6_solved_29 (by decide) ?_
  refine lv_istore_n (lv' := [(1, .int (1 : Int32)), (0, .ref q_t)]) hx hb dX6_solved_30 rfl hl (by decide) rfl (fun ls hl => ?_)
  obtain ⟨n, hf⟩ := hf
  refine L31 t_top_2 t_weight_3 _ ?_  n _ _ _ _ _ hf hP hD hS (lv_sub hl [1, 0] rfl)
  intro v1_10 t_measure_11 H locs ls hf hP hD hS hl
  refine lv_iconst (v := (0 : Int32)) hx hb dX6_solved_83 (by decide) ?_
  refine lv_istore_n (lv' := [(2, .int (0 : Int32)), (0, .ref q_t)]) hx hb dX6_solved_84 rfl hl (by decide) rfl (fun ls hl => ?_)
  refine lv_iconst (v := (0 : Int32)) hx hb dX6_solved_85 (by decide) ?_
  refine lv_istore_n (lv' := [(3, .int (0 : Int32)), (2, .int (0 : Int32)), (0, .ref q_t)]) hx hb dX6_solved_86 rfl hl (by decide) rfl (fun ls hl => ?_)
  obtain ⟨n, hf⟩ := hf
  refine L87 t_top_2 t_measure_11 t_weight_3 _ ?_  n _ _ _ _ _ hf hP hD hS (lv_sub hl [2, 1, 0] rfl)
  intro v2_12 v3_13 H locs ls hf hP hD hS hl
  refine lv_iload_n hx hb dX6_solved_126 rfl (lv_at hl 0 rfl) ?_
  exact hret v2_12 (t_top_2, t_measure_11, t_weight_3) hf hP hD hS dX6_solved_127
abbrev wd_X6_looksAtAll (cI cZ cB cG : ClassId) (q_t : Nat) (q_t_live : Nat) (q_t_now : Nat) (q_t_keys : Nat) (q_t_aside : Nat) (q_t_old : Nat) (q_t_saved : Nat) (q_t_input : Nat) (q_t_output : Nat) (q_t_weight : Nat) (q_t_measure : Nat) (q_t_planned : Nat) (q_t_came : Nat) (q_t_rank : Nat) (t_thrown : Int32) (t_oldMany : Int32) (t_savedSet : Int32) (t_inputMany : Int32) (t_outputMany : Int32) (t_errorCode : Int32) (t_errorPosition : Int32) (t_top : Int32) (t_ahead : Int32) (t_round : Int32) (t_loudest : Int32) (t_textEnd : Int32) (t_kind : Int32) (t_from : Int32) (t_to : Int32) (t_value : Int32) (t_fault : Int32) (t_faultAt : Int32) (t_live : (Nat → Int32)) (t_now : (Nat → Int32)) : va_W := [(q_t, .inr (6, [.ref q_t_keys, .int t_thrown, .ref q_t_now, .ref q_t_aside, .ref q_t_old, .int t_oldMany, .ref q_t_saved, .int t_savedSet, .ref q_t_input, .int t_inputMany, .ref q_t_output, .int t_outputMany, .int t_errorCode, .int t_errorPosition, .ref q_t_live, .ref q_t_weight, .ref q_t_measure, .int t_top, .ref q_t_planned, .ref q_t_came, .ref q_t_rank, .int t_ahead, .int t_round, .int t_loudest, .int t_textEnd, .int t_kind, .int t_from, .int t_to, .int t_value, .int t_fault, .int t_faultAt])), (q_t_live, .inl (cI, 61, .inl t_live)), (q_t_now, .inl (cI, 176, .inl t_now))]
def F_X6_looksAtAll_2 (t_now : (Nat → Int32)) (K0 : Int32 → (Nat → Int32) → Prop) (rec : Int32 → (Nat → Int32) → Prop) (v1 : Int32) (t_live : (Nat → Int32)) : Prop := (((t_now 1) ≤ v1 → (K0 v1 t_live)) ∧ (¬ ((t_now 1) ≤ v1) → (vp_in v1 61 ∧ (rec ((v1 + (1 : Int32))) ((upd t_live v1.toNatClampNeg (1 : Int32)))))))
def wp_X6_looksAtAll (t_live : (Nat → Int32)) (t_now : (Nat → Int32)) (post : (Nat → Int32) → Prop) : Prop := (∃ n, fx2 (F_X6_looksAtAll_2 t_now (fun v1_1 t_live_2 => (post t_live_2))) n (0 : Int32) t_live)
abbrev rm_X6_looksAtAll : Room := { frames := 1, cells := 0, slots := 0, locals := 80 }
theorem in_X6_looksAtAll_X6 : ∀ w ∈ u_ws RX6 TX6 31, w ∈ wsX6_looksAtAll := by decide +kernel
theorem k_X6_looksAtAll_13 : Cond.fieldLink RX6 13 "ParityGameModel" "now" "[I" ∈ wsX6_looksAtAll := by decide +kernel
theorem k_X6_looksAtAll_36 : Cond.fieldLink RX6 36 "ParityGameModel" "live" "[I" ∈ wsX6_looksAtAll := by decide +kernel
set_option maxHeartbeats 40000000 in
set_option maxRecDepth 100000 in
theorem c_X6_looksAtAll (l : Launch) (D : va_G) (X : gX) (cI cZ cB cG : ClassId) (sz : Nat) (q_t : Nat) (q_t_live : Nat) (q_t_now : Nat) (q_t_keys : Nat) (q_t_aside : Nat) (q_t_old : Nat) (q_t_saved : Nat) (q_t_input : Nat) (q_t_output : Nat) (q_t_weight : Nat) (q_t_measure : Nat) (q_t_planned : Nat) (q_t_came : Nat) (q_t_rank : Nat) (t_thrown : Int32) (t_oldMany : Int32) (t_savedSet : Int32) (t_inputMany : Int32) (t_outputMany : Int32) (t_errorCode : Int32) (t_errorPosition : Int32) (t_top : Int32) (t_ahead : Int32) (t_round : Int32) (t_loudest : Int32) (t_textEnd : Int32) (t_kind : Int32) (t_from : Int32) (t_to : Int32) (t_value : Int32) (t_fault : Int32) (t_faultAt : Int32) (t_live : (Nat → Int32)) (t_now : (Nat → Int32)) (post : (Nat → Int32) → Prop) (hf : wp_X6_looksAtAll t_live t_now post) : Met l yX6_looksAtAll wsX6_looksAtAll rm_X6_looksAtAll (gP D X (gT cI cZ cB cG) sz [.ref q_t] (wd_X6_looksAtAll cI cZ cB cG q_t q_t_live q_t_now q_t_keys q_t_aside q_t_old q_t_saved q_t_input q_t_output q_t_weight q_t_measure q_t_planned q_t_came q_t_rank t_thrown t_oldMany t_savedSet t_inputMany t_outputMany t_errorCode t_errorPosition t_top t_ahead t_round t_loudest t_textEnd t_kind t_from t_to t_value t_fault t_faultAt t_live t_now)) (va_Qv (fun (u : (Nat → Int32)) => post u) (fun u t => gB D (gT cI cZ cB cG) (va_A (wd_X6_looksAtAll cI cZ cB cG q_t q_t_live q_t_now q_t_keys q_t_aside q_t_old q_t_saved q_t_input q_t_output q_t_weight q_t_measure q_t_planned q_t_came q_t_rank t_thrown t_oldMany t_savedSet t_inputMany t_outputMany t_errorCode t_errorPosition t_top t_ahead t_round t_loudest t_textEnd t_kind t_from t_to t_value t_fault t_faultAt t_live t_now) sz) (wd_X6_looksAtAll cI cZ cB cG q_t q_t_live q_t_now q_t_keys q_t_aside q_t_old q_t_saved q_t_input q_t_output q_t_weight q_t_measure q_t_planned q_t_came q_t_rank t_thrown t_oldMany t_savedSet t_inputMany t_outputMany t_errorCode t_errorPosition t_top t_ahead t_round t_loudest t_textEnd t_kind t_from t_to t_value t_fault t_faultAt u t_now) t) (va_A (wd_X6_looksAtAll cI cZ cB cG q_t q_t_live q_t_now q_t_keys q_t_aside q_t_old q_t_saved q_t_input q_t_output q_t_weight q_t_measure q_t_planned q_t_came q_t_rank t_thrown t_oldMany t_savedSet t_inputMany t_outputMany t_errorCode t_errorPosition t_top t_ahead t_round t_loudest t_textEnd t_kind t_from t_to t_value t_fault t_faultAt t_live t_now) sz)) 0 0 (va_A (wd_X6_looksAtAll cI cZ cB cG q_t q_t_live q_t_now q_t_keys q_t_aside q_t_old q_t_saved q_t_input q_t_output q_t_weight q_t_measure q_t_planned q_t_came q_t_rank t_thrown t_oldMany t_savedSet t_inputMany t_outputMany t_errorCode t_errorPosition t_top t_ahead t_round t_loudest t_textEnd t_kind t_from t_to t_value t_fault t_faultAt t_live t_now) sz) := by
  refine g_ofWv (cc := cX6_looksAtAll) (maxL := 2) (by decide +kernel) (Nat.le_of_ble_eq_true rfl) rfl ?_
  intro p e s m args below meth c A Q hx hb hml hown hts hA hK hE H hP hD hS ls hl hret
  have hinX6 := in_X6_looksAtAll_X6
  have k13 := hts _ k_X6_looksAtAll_13
  have k36 := hts _ k_X6_looksAtAll_36
  have hl : lv_has ls 2 [(0, .ref q_t)] := hl
  have L2 : ∀ (K0 : Int32 → (Nat → Int32) → Prop) (_ : ∀ (v1 : Int32) (t_live : (Nat → Int32)) (H : Heap) (locs : List Loc) (ls : Array Slot), K0 v1 t_live → va_P D vwCl (wd_X6_looksAtAll cI cZ cB cG q_t q_t_live q_t_now q_t_keys q_t_aside q_t_old q_t_saved q_t_input q_t_output q_t_weight q_t_measure q_t_planned q_t_came q_t_rank t_thrown t_oldMany t_savedSet t_inputMany t_outputMany t_errorCode t_errorPosition t_top t_ahead t_round t_loudest t_textEnd t_kind t_from t_to t_value t_fault t_faultAt t_live t_now) H → va_D A (wd_X6_looksAtAll cI cZ cB cG q_t q_t_live q_t_now q_t_keys q_t_aside q_t_old q_t_saved q_t_input q_t_output q_t_weight q_t_measure q_t_planned q_t_came q_t_rank t_thrown t_oldMany t_savedSet t_inputMany t_outputMany t_errorCode t_errorPosition t_top t_ahead t_round t_loudest t_textEnd t_kind t_from t_to t_value t_fault t_faultAt t_live t_now) → va_S A s.heap H locs → lv_has ls 2 [] → W p l e (rm_X6_looksAtAll) s m args below meth c H locs 0 0 Q (F0 m 25 ls []))  (n : Nat) (v1 : Int32) (t_live : (Nat → Int32)) (H : Heap) (locs : List Loc) (ls : Array Slot), fx2 (F_X6_looksAtAll_2 t_now K0) n v1 t_live → va_P D vwCl (wd_X6_looksAtAll cI cZ cB cG q_t q_t_live q_t_now q_t_keys q_t_aside q_t_old q_t_saved q_t_input q_t_output q_t_weight q_t_measure q_t_planned q_t_came q_t_rank t_thrown t_oldMany t_savedSet t_inputMany t_outputMany t_errorCode t_errorPosition t_top t_ahead t_round t_loudest t_textEnd t_kind t_from t_to t_value t_fault t_faultAt t_live t_now) H → va_D A (wd_X6_looksAtAll cI cZ cB cG q_t q_t_live q_t_now q_t_keys q_t_aside q_t_old q_t_saved q_t_input q_t_output q_t_weight q_t_measure q_t_planned q_t_came q_t_rank t_thrown t_oldMany t_savedSet t_inputMany t_outputMany t_errorCode t_errorPosition t_top t_ahead t_round t_loudest t_textEnd t_kind t_from t_to t_value t_fault t_faultAt t_live t_now) → va_S A s.heap H locs → lv_has ls 2 [(0, .ref q_t), (1, .int v1)] → W p l e (rm_X6_looksAtAll) s m args below meth c H locs 0 0 Q (F0 m 2 ls []) := by
    intro K0 hK0 n
    induction n with
    | zero => intro v1 t_live H locs ls hf; exact (hf : False).elim
    | succ n ih =>
      intro v1 t_live H locs ls hf hP hD hS hl
      have hf : F_X6_looksAtAll_2 t_now K0 (fx2 (F_X6_looksAtAll_2 t_now K0) n) v1 t_live := hf
      unfold F_X6_looksAtAll_2 at hf
      refine lv_iload_n hx hb dX6_looksAtAll_2 rfl (lv_at hl 1 rfl) ?_
      refine lv_aload_n hx hb dX6_looksAtAll_3 rfl (lv_at hl 0 rfl) ?_
      refine va_get (D := D) (ci := 6) (v := .ref q_t_now) (C := RX6) (T := TX6) (N := 31) hx hb hts hinX6 hown hK hP 0 rfl rfl 2 (by decide) k13 (fun _ h9 => h9) rfl dX6_looksAtAll_4 ?_
      refine lv_iconst (v := (1 : Int32)) hx hb dX6_looksAtAll_7 (by decide) ?_
      refine va_iald hx hb hK hP 2 0 rfl rfl (n := 176) (by unfold vp_in; decide) dX6_looksAtAll_8 ?_
      refine lv_icmp_ge (tgt := 25) hx hb dX6_looksAtAll_9 (by decide) (fun hc => ?_) (fun hc => ?_)
      · have hf := hf.1 hc
        exact hK0 _ _ _ _ _ hf hP hD hS (lv_sub hl [] rfl)
      · have hf := hf.2 hc
        refine lv_aload_n hx hb dX6_looksAtAll_12 rfl (lv_at hl 0 rfl) ?_
        refine va_get (D := D) (ci := 6) (v := .ref q_t_live) (C := RX6) (T := TX6) (N := 31) hx hb hts hinX6 hown hK hP 0 rfl rfl 14 (by decide) k36 (fun _ h9 => h9) rfl dX6_looksAtAll_13 ?_
        refine lv_iload_n hx hb dX6_looksAtAll_16 rfl (lv_at hl 1 rfl) ?_
        refine lv_iconst (v := (1 : Int32)) hx hb dX6_looksAtAll_17 (by decide) ?_
        refine va_iast hx hb hK hP hD hS 1 0 rfl rfl (n := 61) hf.1 dX6_looksAtAll_18 (fun H locs hP hD hS => ?_)
        have hf := hf.2
        have hP : va_P D vwCl (wd_X6_looksAtAll cI cZ cB cG q_t q_t_live q_t_now q_t_keys q_t_aside q_t_old q_t_saved q_t_input q_t_output q_t_weight q_t_measure q_t_planned q_t_came q_t_rank t_thrown t_oldMany t_savedSet t_inputMany t_outputMany t_errorCode t_errorPosition t_top t_ahead t_round t_loudest t_textEnd t_kind t_from t_to t_value t_fault t_faultAt ((upd t_live v1.toNatClampNeg (1 : Int32))) t_now) H := hP
        have hD : va_D A (wd_X6_looksAtAll cI cZ cB cG q_t q_t_live q_t_now q_t_keys q_t_aside q_t_old q_t_saved q_t_input q_t_output q_t_weight q_t_measure q_t_planned q_t_came q_t_rank t_thrown t_oldMany t_savedSet t_inputMany t_outputMany t_errorCode t_errorPosition t_top t_ahead t_round t_loudest t_textEnd t_kind t_from t_to t_value t_fault t_faultAt ((upd t_live v1.toNatClampNeg (1 : Int32))) t_now) := hD
        refine lv_iinc (v := (v1 + (1 : Int32))) (lv' := [(1, .int ((v1 + (1 : Int32)))), (0, .ref q_t)]) hx hb dX6_looksAtAll_19 hl (k := 1) rfl rfl (by decide) rfl (fun ls hl => ?_)
        refine lv_goto (tgt := 2) hx hb dX6_looksAtAll_22 (by decide) ?_
        exact ih _ _ _ _ _ hf hP hD hS (lv_sub hl [1, 0] rfl)
  unfold wp_X6_looksAtAll at hf
  refine lv_iconst (v := (0 : Int32)) hx hb dX6_looksAtAll_0 (by decide) ?_
  refine lv_istore_n (lv' := [(1, .int (0 : Int32)), (0, .ref q_t)]) hx hb dX6_looksAtAll_1 rfl hl (by decide) rfl (fun ls hl => ?_)
  obtain ⟨n, hf⟩ := hf
  refine L2 _ ?_  n _ _ _ _ _ hf hP hD hS (lv_sub hl [1, 0] rfl)
  intro v1_1 t_live_2 H locs ls hf hP hD hS hl
  exact hret t_live_2 hf hP hD hS dX6_looksAtAll_25
abbrev wd_X6_wonByEven (cI cZ cB cG : ClassId) (q_t : Nat) (q_t_live : Nat) (q_t_measure : Nat) (q_t_now : Nat) (q_t_weight : Nat) (q_t_keys : Nat) (q_t_aside : Nat) (q_t_old : Nat) (q_t_saved : Nat) (q_t_input : Nat) (q_t_output : Nat) (q_t_planned : Nat) (q_t_came : Nat) (q_t_rank : Nat) (t_thrown : Int32) (t_oldMany : Int32) (t_savedSet : Int32) (t_inputMany : Int32) (t_outputMany : Int32) (t_errorCode : Int32) (t_errorPosition : Int32) (t_top : Int32) (t_ahead : Int32) (t_round : Int32) (t_loudest : Int32) (t_textEnd : Int32) (t_kind : Int32) (t_from : Int32) (t_to : Int32) (t_value : Int32) (t_fault : Int32) (t_faultAt : Int32) (t_live : (Nat → Int32)) (t_measure : (Nat → Int32)) (t_now : (Nat → Int32)) (t_weight : (Nat → Int32)) : va_W := [(q_t, .inr (6, [.ref q_t_keys, .int t_thrown, .ref q_t_now, .ref q_t_aside, .ref q_t_old, .int t_oldMany, .ref q_t_saved, .int t_savedSet, .ref q_t_input, .int t_inputMany, .ref q_t_output, .int t_outputMany, .int t_errorCode, .int t_errorPosition, .ref q_t_live, .ref q_t_weight, .ref q_t_measure, .int t_top, .ref q_t_planned, .ref q_t_came, .ref q_t_rank, .int t_ahead, .int t_round, .int t_loudest, .int t_textEnd, .int t_kind, .int t_from, .int t_to, .int t_value, .int t_fault, .int t_faultAt])), (q_t_live, .inl (cI, 61, .inl t_live)), (q_t_measure, .inl (cI, 20, .inl t_measure)), (q_t_now, .inl (cI, 176, .inl t_now)), (q_t_weight, .inl (cI, 12, .inl t_weight))]
def wp_X6_wonByEven (t_live : (Nat → Int32)) (t_measure : (Nat → Int32)) (t_now : (Nat → Int32)) (t_weight : (Nat → Int32)) (post : Int32 → Int32 → (Nat → Int32) → (Nat → Int32) → (Nat → Int32) → Prop) : Prop := (wp_X6_looksAtAll t_live t_now (fun t_live_2 => (wp_X6_solved t_live_2 t_measure t_now t_weight (fun r_3 t_top_4 t_measure_5 t_weight_6 => (post r_3 t_top_4 t_live_2 t_measure_5 t_weight_6)))))
abbrev rm_X6_wonByEven : Room := { frames := 4, cells := 0, slots := 0, locals := 151 }
set_option maxHeartbeats 40000000 in
set_option maxRecDepth 100000 in
theorem c_X6_wonByEven (l : Launch) (D : va_G) (X : gX) (cI cZ cB cG : ClassId) (sz : Nat) (q_t : Nat) (q_t_live : Nat) (q_t_measure : Nat) (q_t_now : Nat) (q_t_weight : Nat) (q_t_keys : Nat) (q_t_aside : Nat) (q_t_old : Nat) (q_t_saved : Nat) (q_t_input : Nat) (q_t_output : Nat) (q_t_planned : Nat) (q_t_came : Nat) (q_t_rank : Nat) (t_thrown : Int32) (t_oldMany : Int32) (t_savedSet : Int32) (t_inputMany : Int32) (t_outputMany : Int32) (t_errorCode : Int32) (t_errorPosition : Int32) (t_top : Int32) (t_ahead : Int32) (t_round : Int32) (t_loudest : Int32) (t_textEnd : Int32) (t_kind : Int32) (t_from : Int32) (t_to : Int32) (t_value : Int32) (t_fault : Int32) (t_faultAt : Int32) (t_live : (Nat → Int32)) (t_measure : (Nat → Int32)) (t_now : (Nat → Int32)) (t_weight : (Nat → Int32)) (post : Int32 → Int32 → (Nat → Int32) → (Nat → Int32) → (Nat → Int32) → Prop) (hf : wp_X6_wonByEven t_live t_measure t_now t_weight post) : Met l yX6_wonByEven wsX6_wonByEven rm_X6_wonByEven (gP D X (gT cI cZ cB cG) sz [.ref q_t] (wd_X6_wonByEven cI cZ cB cG q_t q_t_live q_t_measure q_t_now q_t_weight q_t_keys q_t_aside q_t_old q_t_saved q_t_input q_t_output q_t_planned q_t_came q_t_rank t_thrown t_oldMany t_savedSet t_inputMany t_outputMany t_errorCode t_errorPosition t_top t_ahead t_round t_loudest t_textEnd t_kind t_from t_to t_value t_fault t_faultAt t_live t_measure t_now t_weight)) (va_Qi (fun (r : Int32) (u : Int32 × (Nat → Int32) × (Nat → Int32) × (Nat → Int32)) => post r u.1 u.2.1 u.2.2.1 u.2.2.2) (fun u t => gB D (gT cI cZ cB cG) (va_A (wd_X6_wonByEven cI cZ cB cG q_t q_t_live q_t_measure q_t_now q_t_weight q_t_keys q_t_aside q_t_old q_t_saved q_t_input q_t_output q_t_planned q_t_came q_t_rank t_thrown t_oldMany t_savedSet t_inputMany t_outputMany t_errorCode t_errorPosition t_top t_ahead t_round t_loudest t_textEnd t_kind t_from t_to t_value t_fault t_faultAt t_live t_measure t_now t_weight) sz) (wd_X6_wonByEven cI cZ cB cG q_t q_t_live q_t_measure q_t_now q_t_weight q_t_keys q_t_aside q_t_old q_t_saved q_t_input q_t_output q_t_planned q_t_came q_t_rank t_thrown t_oldMany t_savedSet t_inputMany t_outputMany t_errorCode t_errorPosition u.1 t_ahead t_round t_loudest t_textEnd t_kind t_from t_to t_value t_fault t_faultAt u.2.1 u.2.2.1 t_now u.2.2.2) t) (va_A (wd_X6_wonByEven cI cZ cB cG q_t q_t_live q_t_measure q_t_now q_t_weight q_t_keys q_t_aside q_t_old q_t_saved q_t_input q_t_output q_t_planned q_t_came q_t_rank t_thrown t_oldMany t_savedSet t_inputMany t_outputMany t_errorCode t_errorPosition t_top t_ahead t_round t_loudest t_textEnd t_kind t_from t_to t_value t_fault t_faultAt t_live t_measure t_now t_weight) sz)) 0 0 (va_A (wd_X6_wonByEven cI cZ cB cG q_t q_t_live q_t_measure q_t_now q_t_weight q_t_keys q_t_aside q_t_old q_t_saved q_t_input q_t_output q_t_planned q_t_came q_t_rank t_thrown t_oldMany t_savedSet t_inputMany t_outputMany t_errorCode t_errorPosition t_top t_ahead t_round t_loudest t_textEnd t_kind t_from t_to t_value t_fault t_faultAt t_live t_measure t_now t_weight) sz) := by
  refine g_ofWi (cc := cX6_wonByEven) (maxL := 1) (by decide +kernel) (Nat.le_of_ble_eq_true rfl) rfl ?_
  intro p e s m args below meth c A Q hx hb hml hown hts hA hK hE H hP hD hS ls hl hret
  have hl : lv_has ls 1 [(0, .ref q_t)] := hl
  unfold wp_X6_wonByEven at hf
  refine lv_aload_n hx hb dX6_wonByEven_0 rfl (lv_at hl 0 rfl) ?_
  have hPc := hP.sub (ws' := (wd_X6_looksAtAll cI cZ cB cG q_t q_t_live q_t_now q_t_keys q_t_aside q_t_old q_t_saved q_t_input q_t_output q_t_weight q_t_measure q_t_planned q_t_came q_t_rank t_thrown t_oldMany t_savedSet t_inputMany t_outputMany t_errorCode t_errorPosition t_top t_ahead t_round t_loudest t_textEnd t_kind t_from t_to t_value t_fault t_faultAt t_live t_now)) [0, 1, 3] rfl
  have hDc := hD.sub (ws' := (wd_X6_looksAtAll cI cZ cB cG q_t q_t_live q_t_now q_t_keys q_t_aside q_t_old q_t_saved q_t_input q_t_output q_t_weight q_t_measure q_t_planned q_t_came q_t_rank t_thrown t_oldMany t_savedSet t_inputMany t_outputMany t_errorCode t_errorPosition t_top t_ahead t_round t_loudest t_textEnd t_kind t_from t_to t_value t_fault t_faultAt t_live t_now)) [0, 1, 3] (by decide +kernel) rfl
  have hFc := va_free (wc := (wd_X6_looksAtAll cI cZ cB cG q_t q_t_live q_t_now q_t_keys q_t_aside q_t_old q_t_saved q_t_input q_t_output q_t_weight q_t_measure q_t_planned q_t_came q_t_rank t_thrown t_oldMany t_savedSet t_inputMany t_outputMany t_errorCode t_errorPosition t_top t_ahead t_round t_loudest t_textEnd t_kind t_from t_to t_value t_fault t_faultAt t_live t_now)) hD hS hA [0, 1, 3] rfl
  refine va_callv (va_runV (As := []) (rest := []) ⟨hx, hb, hml, hown, hts⟩ (c_X6_looksAtAll l D X cI cZ cB cG H.size q_t q_t_live q_t_now q_t_keys q_t_aside q_t_old q_t_saved q_t_input q_t_output q_t_weight q_t_measure q_t_planned q_t_came q_t_rank t_thrown t_oldMany t_savedSet t_inputMany t_outputMany t_errorCode t_errorPosition t_top t_ahead t_round t_loudest t_textEnd t_kind t_from t_to t_value t_fault t_faultAt t_live t_now _ hf) (cwV 0 hts gX6_wonByEven_X6_looksAtAll rfl rfl rfl (by decide +kernel) ⟨Nat.le_of_ble_eq_true rfl, Nat.le_of_ble_eq_true rfl⟩) ⟨g_blind, va_recv hK hPc (ci := 6) (q0 := 0) rfl rfl, fun U hU hW => g_side hU hW hPc hK hDc hE hS hFc⟩ rfl rfl hl.1 rfl (lv_room (Nat.le_of_ble_eq_true rfl)) dX6_wonByEven_1 ⟨Nat.zero_le _, Nat.zero_le _⟩) hS (fun q _ h => hFc q h) hFc (fun u t H1 locs ht hvm hw hB hz1 hk1 hS => ?_)
  obtain ⟨t_live_2, rfl⟩ : ∃ z, z = u := ⟨_, rfl⟩
  obtain ⟨hP1, hK1, hD1⟩ := hB
  rw [ht] at hP1
  obtain ⟨hP, hD⟩ := g_back (wc := (wd_X6_looksAtAll cI cZ cB cG q_t q_t_live q_t_now q_t_keys q_t_aside q_t_old q_t_saved q_t_input q_t_output q_t_weight q_t_measure q_t_planned q_t_came q_t_rank t_thrown t_oldMany t_savedSet t_inputMany t_outputMany t_errorCode t_errorPosition t_top t_ahead t_round t_loudest t_textEnd t_kind t_from t_to t_value t_fault t_faultAt t_live t_now)) (w1 := (wd_X6_looksAtAll cI cZ cB cG q_t q_t_live q_t_now q_t_keys q_t_aside q_t_old q_t_saved q_t_input q_t_output q_t_weight q_t_measure q_t_planned q_t_came q_t_rank t_thrown t_oldMany t_savedSet t_inputMany t_outputMany t_errorCode t_errorPosition t_top t_ahead t_round t_loudest t_textEnd t_kind t_from t_to t_value t_fault t_faultAt t_live_2 t_now)) hP hD [0, 1, 3] rfl rfl hk1 hP1
  have hP : va_P D vwCl (wd_X6_wonByEven cI cZ cB cG q_t q_t_live q_t_measure q_t_now q_t_weight q_t_keys q_t_aside q_t_old q_t_saved q_t_input q_t_output q_t_planned q_t_came q_t_rank t_thrown t_oldMany t_savedSet t_inputMany t_outputMany t_errorCode t_errorPosition t_top t_ahead t_round t_loudest t_textEnd t_kind t_from t_to t_value t_fault t_faultAt t_live_2 t_measure t_now t_weight) H1 := hP
  have hD : va_D A (wd_X6_wonByEven cI cZ cB cG q_t q_t_live q_t_measure q_t_now q_t_weight q_t_keys q_t_aside q_t_old q_t_saved q_t_input q_t_output q_t_planned q_t_came q_t_rank t_thrown t_oldMany t_savedSet t_inputMany t_outputMany t_errorCode t_errorPosition t_top t_ahead t_round t_loudest t_textEnd t_kind t_from t_to t_value t_fault t_faultAt t_live_2 t_measure t_now t_weight) := hD
  have hf := hw
  generalize H1 = H at hP hS ⊢
  refine lv_aload_n hx hb dX6_wonByEven_4 rfl (lv_at hl 0 rfl) ?_
  have hPc := hP.sub (ws' := (wd_X6_solved cI cZ cB cG q_t q_t_live q_t_measure q_t_now q_t_weight q_t_keys q_t_aside q_t_old q_t_saved q_t_input q_t_output q_t_planned q_t_came q_t_rank t_thrown t_oldMany t_savedSet t_inputMany t_outputMany t_errorCode t_errorPosition t_top t_ahead t_round t_loudest t_textEnd t_kind t_from t_to t_value t_fault t_faultAt t_live_2 t_measure t_now t_weight)) [0, 1, 2, 3, 4] rfl
  have hDc := hD.sub (ws' := (wd_X6_solved cI cZ cB cG q_t q_t_live q_t_measure q_t_now q_t_weight q_t_keys q_t_aside q_t_old q_t_saved q_t_input q_t_output q_t_planned q_t_came q_t_rank t_thrown t_oldMany t_savedSet t_inputMany t_outputMany t_errorCode t_errorPosition t_top t_ahead t_round t_loudest t_textEnd t_kind t_from t_to t_value t_fault t_faultAt t_live_2 t_measure t_now t_weight)) [0, 1, 2, 3, 4] (by decide +kernel) rfl
  have hFc := va_free (wc := (wd_X6_solved cI cZ cB cG q_t q_t_live q_t_measure q_t_now q_t_weight q_t_keys q_t_aside q_t_old q_t_saved q_t_input q_t_output q_t_planned q_t_came q_t_rank t_thrown t_oldMany t_savedSet t_inputMany t_outputMany t_errorCode t_errorPosition t_top t_ahead t_round t_loudest t_textEnd t_kind t_from t_to t_value t_fault t_faultAt t_live_2 t_measure t_now t_weight)) hD hS hA [0, 1, 2, 3, 4] rfl
  refine va_calli (va_runV (As := []) (rest := []) ⟨hx, hb, hml, hown, hts⟩ (c_X6_solved l D X cI cZ cB cG H.size q_t q_t_live q_t_measure q_t_now q_t_weight q_t_keys q_t_aside q_t_old q_t_saved q_t_input q_t_output q_t_planned q_t_came q_t_rank t_thrown t_oldMany t_savedSet t_inputMany t_outputMany t_errorCode t_errorPosition t_top t_ahead t_round t_loudest t_textEnd t_kind t_from t_to t_value t_fault t_faultAt t_live_2 t_measure t_now t_weight _ hf) (cwV 0 hts gX6_wonByEven_X6_solved rfl rfl rfl (by decide +kernel) ⟨Nat.le_of_ble_eq_true rfl, Nat.le_of_ble_eq_true rfl⟩) ⟨g_blind, va_recv hK hPc (ci := 6) (q0 := 0) rfl rfl, fun U hU hW => g_side hU hW hPc hK hDc hE hS hFc⟩ rfl rfl hl.1 rfl (lv_room (Nat.le_of_ble_eq_true rfl)) dX6_wonByEven_5 ⟨Nat.zero_le _, Nat.zero_le _⟩) hS (fun q _ h => hFc q h) hFc (fun r_3 u t H1 locs ht hvm hw hB hz1 hk1 hS => ?_)
  obtain ⟨t_top_4, t_measure_5, t_weight_6⟩ := u
  obtain ⟨hP1, hK1, hD1⟩ := hB
  rw [ht] at hP1
  obtain ⟨hP, hD⟩ := g_back (wc := (wd_X6_solved cI cZ cB cG q_t q_t_live q_t_measure q_t_now q_t_weight q_t_keys q_t_aside q_t_old q_t_saved q_t_input q_t_output q_t_planned q_t_came q_t_rank t_thrown t_oldMany t_savedSet t_inputMany t_outputMany t_errorCode t_errorPosition t_top t_ahead t_round t_loudest t_textEnd t_kind t_from t_to t_value t_fault t_faultAt t_live_2 t_measure t_now t_weight)) (w1 := (wd_X6_solved cI cZ cB cG q_t q_t_live q_t_measure q_t_now q_t_weight q_t_keys q_t_aside q_t_old q_t_saved q_t_input q_t_output q_t_planned q_t_came q_t_rank t_thrown t_oldMany t_savedSet t_inputMany t_outputMany t_errorCode t_errorPosition t_top_4 t_ahead t_round t_loudest t_textEnd t_kind t_from t_to t_value t_fault t_faultAt t_live_2 t_measure_5 t_now t_weight_6)) hP hD [0, 1, 2, 3, 4] rfl rfl hk1 hP1
  have hP : va_P D vwCl (wd_X6_wonByEven cI cZ cB cG q_t q_t_live q_t_measure q_t_now q_t_weight q_t_keys q_t_aside q_t_old q_t_saved q_t_input q_t_output q_t_planned q_t_came q_t_rank t_thrown t_oldMany t_savedSet t_inputMany t_outputMany t_errorCode t_errorPosition t_top_4 t_ahead t_round t_loudest t_textEnd t_kind t_from t_to t_value t_fault t_faultAt t_live_2 t_measure_5 t_now t_weight_6) H1 := hP
  have hD : va_D A (wd_X6_wonByEven cI cZ cB cG q_t q_t_live q_t_measure q_t_now q_t_weight q_t_keys q_t_aside q_t_old q_t_saved q_t_input q_t_output q_t_planned q_t_came q_t_rank t_thrown t_oldMany t_savedSet t_inputMany t_outputMany t_errorCode t_errorPosition t_top_4 t_ahead t_round t_loudest t_textEnd t_kind t_from t_to t_value t_fault t_faultAt t_live_2 t_measure_5 t_now t_weight_6) := hD
  have hf := hw
  generalize H1 = H at hP hS ⊢
  exact hret r_3 (t_top_4, t_live_2, t_measure_5, t_weight_6) hf hP hD hS dX6_wonByEven_8
abbrev wd_X6_all (cI cZ cB cG : ClassId) (q_t : Nat) (q_t_now : Nat) (q_t_keys : Nat) (q_t_aside : Nat) (q_t_old : Nat) (q_t_saved : Nat) (q_t_input : Nat) (q_t_output : Nat) (q_t_live : Nat) (q_t_weight : Nat) (q_t_measure : Nat) (q_t_planned : Nat) (q_t_came : Nat) (q_t_rank : Nat) (t_thrown : Int32) (t_oldMany : Int32) (t_savedSet : Int32) (t_inputMany : Int32) (t_outputMany : Int32) (t_errorCode : Int32) (t_errorPosition : Int32) (t_top : Int32) (t_ahead : Int32) (t_round : Int32) (t_loudest : Int32) (t_textEnd : Int32) (t_kind : Int32) (t_from : Int32) (t_to : Int32) (t_value : Int32) (t_fault : Int32) (t_faultAt : Int32) (t_now : (Nat → Int32)) : va_W := [(q_t, .inr (6, [.ref q_t_keys, .int t_thrown, .ref q_t_now, .ref q_t_aside, .ref q_t_old, .int t_oldMany, .ref q_t_saved, .int t_savedSet, .ref q_t_input, .int t_inputMany, .ref q_t_output, .int t_outputMany, .int t_errorCode, .int t_errorPosition, .ref q_t_live, .ref q_t_weight, .ref q_t_measure, .int t_top, .ref q_t_planned, .ref q_t_came, .ref q_t_rank, .int t_ahead, .int t_round, .int t_loudest, .int t_textEnd, .int t_kind, .int t_from, .int t_to, .int t_value, .int t_fault, .int t_faultAt])), (q_t_now, .inl (cI, 176, .inl t_now))]
def wp_X6_all (t_now : (Nat → Int32)) (post : Int32 → Prop) : Prop := (post ((((1 : Int32) <<< ((t_now 0) &&& 31)) - (1 : Int32))))
abbrev rm_X6_all : Room := { frames := 1, cells := 0, slots := 0, locals := 80 }
theorem in_X6_all_X6 : ∀ w ∈ u_ws RX6 TX6 31, w ∈ wsX6_all := by decide +kernel
theorem k_X6_all_13 : Cond.fieldLink RX6 13 "ParityGameModel" "now" "[I" ∈ wsX6_all := by decide +kernel
set_option maxHeartbeats 40000000 in
set_option maxRecDepth 100000 in
theorem c_X6_all (l : Launch) (D : va_G) (X : gX) (cI cZ cB cG : ClassId) (sz : Nat) (q_t : Nat) (q_t_now : Nat) (q_t_keys : Nat) (q_t_aside : Nat) (q_t_old : Nat) (q_t_saved : Nat) (q_t_input : Nat) (q_t_output : Nat) (q_t_live : Nat) (q_t_weight : Nat) (q_t_measure : Nat) (q_t_planned : Nat) (q_t_came : Nat) (q_t_rank : Nat) (t_thrown : Int32) (t_oldMany : Int32) (t_savedSet : Int32) (t_inputMany : Int32) (t_outputMany : Int32) (t_errorCode : Int32) (t_errorPosition : Int32) (t_top : Int32) (t_ahead : Int32) (t_round : Int32) (t_loudest : Int32) (t_textEnd : Int32) (t_kind : Int32) (t_from : Int32) (t_to : Int32) (t_value : Int32) (t_fault : Int32) (t_faultAt : Int32) (t_now : (Nat → Int32)) (post : Int32 → Prop) (hf : wp_X6_all t_now post) : Met l yX6_all wsX6_all rm_X6_all (gP D X (gT cI cZ cB cG) sz [.ref q_t] (wd_X6_all cI cZ cB cG q_t q_t_now q_t_keys q_t_aside q_t_old q_t_saved q_t_input q_t_output q_t_live q_t_weight q_t_measure q_t_planned q_t_came q_t_rank t_thrown t_oldMany t_savedSet t_inputMany t_outputMany t_errorCode t_errorPosition t_top t_ahead t_round t_loudest t_textEnd t_kind t_from t_to t_value t_fault t_faultAt t_now)) (va_Qi (fun (r : Int32) (u : Unit) => post r) (fun u t => gB D (gT cI cZ cB cG) (va_A (wd_X6_all cI cZ cB cG q_t q_t_now q_t_keys q_t_aside q_t_old q_t_saved q_t_input q_t_output q_t_live q_t_weight q_t_measure q_t_planned q_t_came q_t_rank t_thrown t_oldMany t_savedSet t_inputMany t_outputMany t_errorCode t_errorPosition t_top t_ahead t_round t_loudest t_textEnd t_kind t_from t_to t_value t_fault t_faultAt t_now) sz) (wd_X6_all cI cZ cB cG q_t q_t_now q_t_keys q_t_aside q_t_old q_t_saved q_t_input q_t_output q_t_live q_t_weight q_t_measure q_t_planned q_t_came q_t_rank t_thrown t_oldMany t_savedSet t_inputMany t_outputMany t_errorCode t_errorPosition t_top t_ahead t_round t_loudest t_textEnd t_kind t_from t_to t_value t_fault t_faultAt t_now) t) (va_A (wd_X6_all cI cZ cB cG q_t q_t_now q_t_keys q_t_aside q_t_old q_t_saved q_t_input q_t_output q_t_live q_t_weight q_t_measure q_t_planned q_t_came q_t_rank t_thrown t_oldMany t_savedSet t_inputMany t_outputMany t_errorCode t_errorPosition t_top t_ahead t_round t_loudest t_textEnd t_kind t_from t_to t_value t_fault t_faultAt t_now) sz)) 0 0 (va_A (wd_X6_all cI cZ cB cG q_t q_t_now q_t_keys q_t_aside q_t_old q_t_saved q_t_input q_t_output q_t_live q_t_weight q_t_measure q_t_planned q_t_came q_t_rank t_thrown t_oldMany t_savedSet t_inputMany t_outputMany t_errorCode t_errorPosition t_top t_ahead t_round t_loudest t_textEnd t_kind t_from t_to t_value t_fault t_faultAt t_now) sz) := by
  refine g_ofWi (cc := cX6_all) (maxL := 1) (by decide +kernel) (Nat.le_of_ble_eq_true rfl) rfl ?_
  intro p e s m args below meth c A Q hx hb hml hown hts hA hK hE H hP hD hS ls hl hret
  have hinX6 := in_X6_all_X6
  have k13 := hts _ k_X6_all_13
  have hl : lv_has ls 1 [(0, .ref q_t)] := hl
  unfold wp_X6_all at hf
  refine lv_iconst (v := (1 : Int32)) hx hb dX6_all_0 (by decide) ?_
  refine lv_aload_n hx hb dX6_all_1 rfl (lv_at hl 0 rfl) ?_
  refine va_get (D := D) (ci := 6) (v := .ref q_t_now) (C := RX6) (T := TX6) (N := 31) hx hb hts hinX6 hown hK hP 0 rfl rfl 2 (by decide) k13 (fun _ h9 => h9) rfl dX6_all_2 ?_
  refine lv_iconst (v := (0 : Int32)) hx hb dX6_all_5 (by decide) ?_
  refine va_iald hx hb hK hP 1 0 rfl rfl (n := 176) (by unfold vp_in; decide) dX6_all_6 ?_
  refine lv_ishl hx hb dX6_all_7 ?_
  refine lv_iconst (v := (1 : Int32)) hx hb dX6_all_8 (by decide) ?_
  refine lv_isub hx hb dX6_all_9 ?_
  exact hret ((((1 : Int32) <<< ((t_now 0) &&& 31)) - (1 : Int32))) () hf hP hD hS dX6_all_10
abbrev wd_X6_wonBy (cI cZ cB cG : ClassId) (q_t : Nat) (q_t_live : Nat) (q_t_measure : Nat) (q_t_now : Nat) (q_t_weight : Nat) (q_t_keys : Nat) (q_t_aside : Nat) (q_t_old : Nat) (q_t_saved : Nat) (q_t_input : Nat) (q_t_output : Nat) (q_t_planned : Nat) (q_t_came : Nat) (q_t_rank : Nat) (t_thrown : Int32) (t_oldMany : Int32) (t_savedSet : Int32) (t_inputMany : Int32) (t_outputMany : Int32) (t_errorCode : Int32) (t_errorPosition : Int32) (t_top : Int32) (t_ahead : Int32) (t_round : Int32) (t_loudest : Int32) (t_textEnd : Int32) (t_kind : Int32) (t_from : Int32) (t_to : Int32) (t_value : Int32) (t_fault : Int32) (t_faultAt : Int32) (t_live : (Nat → Int32)) (t_measure : (Nat → Int32)) (t_now : (Nat → Int32)) (t_weight : (Nat → Int32)) : va_W := [(q_t, .inr (6, [.ref q_t_keys, .int t_thrown, .ref q_t_now, .ref q_t_aside, .ref q_t_old, .int t_oldMany, .ref q_t_saved, .int t_savedSet, .ref q_t_input, .int t_inputMany, .ref q_t_output, .int t_outputMany, .int t_errorCode, .int t_errorPosition, .ref q_t_live, .ref q_t_weight, .ref q_t_measure, .int t_top, .ref q_t_planned, .ref q_t_came, .ref q_t_rank, .int t_ahead, .int t_round, .int t_loudest, .int t_textEnd, .int t_kind, .int t_from, .int t_to, .int t_value, .int t_fault, .int t_faultAt])), (q_t_live, .inl (cI, 61, .inl t_live)), (q_t_measure, .inl (cI, 20, .inl t_measure)), (q_t_now, .inl (cI, 176, .inl t_now)), (q_t_weight, .inl (cI, 12, .inl t_weight))]
def wp_X6_wonBy (a1 : Int32) (t_live : (Nat → Int32)) (t_measure : (Nat → Int32)) (t_now : (Nat → Int32)) (t_weight : (Nat → Int32)) (post : Int32 → Int32 → (Nat → Int32) → (Nat → Int32) → (Nat → Int32) → Prop) : Prop := (wp_X6_wonByEven t_live t_measure t_now t_weight (fun r_3 t_top_4 t_live_5 t_measure_6 t_weight_7 => ((¬ a1 = (0 : Int32) → (wp_X6_all t_now (fun r_8 => (post ((r_8 &&& (r_3 ^^^ (-1 : Int32)))) t_top_4 t_live_5 t_measure_6 t_weight_7)))) ∧ (a1 = (0 : Int32) → (post r_3 t_top_4 t_live_5 t_measure_6 t_weight_7)))))
abbrev rm_X6_wonBy : Room := { frames := 5, cells := 0, slots := 0, locals := 171 }
set_option maxHeartbeats 40000000 in
set_option maxRecDepth 100000 in
theorem c_X6_wonBy (l : Launch) (D : va_G) (X : gX) (cI cZ cB cG : ClassId) (sz : Nat) (q_t : Nat) (q_t_live : Nat) (q_t_measure : Nat) (q_t_now : Nat) (q_t_weight : Nat) (q_t_keys : Nat) (q_t_aside : Nat) (q_t_old : Nat) (q_t_saved : Nat) (q_t_input : Nat) (q_t_output : Nat) (q_t_planned : Nat) (q_t_came : Nat) (q_t_rank : Nat) (a1 : Int32) (t_thrown : Int32) (t_oldMany : Int32) (t_savedSet : Int32) (t_inputMany : Int32) (t_outputMany : Int32) (t_errorCode : Int32) (t_errorPosition : Int32) (t_top : Int32) (t_ahead : Int32) (t_round : Int32) (t_loudest : Int32) (t_textEnd : Int32) (t_kind : Int32) (t_from : Int32) (t_to : Int32) (t_value : Int32) (t_fault : Int32) (t_faultAt : Int32) (t_live : (Nat → Int32)) (t_measure : (Nat → Int32)) (t_now : (Nat → Int32)) (t_weight : (Nat → Int32)) (post : Int32 → Int32 → (Nat → Int32) → (Nat → Int32) → (Nat → Int32) → Prop) (hf : wp_X6_wonBy a1 t_live t_measure t_now t_weight post) : Met l yX6_wonBy wsX6_wonBy rm_X6_wonBy (gP D X (gT cI cZ cB cG) sz [.ref q_t, .int a1] (wd_X6_wonBy cI cZ cB cG q_t q_t_live q_t_measure q_t_now q_t_weight q_t_keys q_t_aside q_t_old q_t_saved q_t_input q_t_output q_t_planned q_t_came q_t_rank t_thrown t_oldMany t_savedSet t_inputMany t_outputMany t_errorCode t_errorPosition t_top t_ahead t_round t_loudest t_textEnd t_kind t_from t_to t_value t_fault t_faultAt t_live t_measure t_now t_weight)) (va_Qi (fun (r : Int32) (u : Int32 × (Nat → Int32) × (Nat → Int32) × (Nat → Int32)) => post r u.1 u.2.1 u.2.2.1 u.2.2.2) (fun u t => gB D (gT cI cZ cB cG) (va_A (wd_X6_wonBy cI cZ cB cG q_t q_t_live q_t_measure q_t_now q_t_weight q_t_keys q_t_aside q_t_old q_t_saved q_t_input q_t_output q_t_planned q_t_came q_t_rank t_thrown t_oldMany t_savedSet t_inputMany t_outputMany t_errorCode t_errorPosition t_top t_ahead t_round t_loudest t_textEnd t_kind t_from t_to t_value t_fault t_faultAt t_live t_measure t_now t_weight) sz) (wd_X6_wonBy cI cZ cB cG q_t q_t_live q_t_measure q_t_now q_t_weight q_t_keys q_t_aside q_t_old q_t_saved q_t_input q_t_output q_t_planned q_t_came q_t_rank t_thrown t_oldMany t_savedSet t_inputMany t_outputMany t_errorCode t_errorPosition u.1 t_ahead t_round t_loudest t_textEnd t_kind t_from t_to t_value t_fault t_faultAt u.2.1 u.2.2.1 t_now u.2.2.2) t) (va_A (wd_X6_wonBy cI cZ cB cG q_t q_t_live q_t_measure q_t_now q_t_weight q_t_keys q_t_aside q_t_old q_t_saved q_t_input q_t_output q_t_planned q_t_came q_t_rank t_thrown t_oldMany t_savedSet t_inputMany t_outputMany t_errorCode t_errorPosition t_top t_ahead t_round t_loudest t_textEnd t_kind t_from t_to t_value t_fault t_faultAt t_live t_measure t_now t_weight) sz)) 0 0 (va_A (wd_X6_wonBy cI cZ cB cG q_t q_t_live q_t_measure q_t_now q_t_weight q_t_keys q_t_aside q_t_old q_t_saved q_t_input q_t_output q_t_planned q_t_came q_t_rank t_thrown t_oldMany t_savedSet t_inputMany t_outputMany t_errorCode t_errorPosition t_top t_ahead t_round t_loudest t_textEnd t_kind t_from t_to t_value t_fault t_faultAt t_live t_measure t_now t_weight) sz) := by
  refine g_ofWi (cc := cX6_wonBy) (maxL := 3) (by decide +kernel) (Nat.le_of_ble_eq_true rfl) rfl ?_
  intro p e s m args below meth c A Q hx hb hml hown hts hA hK hE H hP hD hS ls hl hret
  have hl : lv_has ls 3 [(0, .ref q_t), (1, .int a1)] := hl
  unfold wp_X6_wonBy at hf
  refine lv_aload_n hx hb dX6_wonBy_0 rfl (lv_at hl 0 rfl) ?_
  have hPc := hP.sub (ws' := (wd_X6_wonByEven cI cZ cB cG q_t q_t_live q_t_measure q_t_now q_t_weight q_t_keys q_t_aside q_t_old q_t_saved q_t_input q_t_output q_t_planned q_t_came q_t_rank t_thrown t_oldMany t_savedSet t_inputMany t_outputMany t_errorCode t_errorPosition t_top t_ahead t_round t_loudest t_textEnd t_kind t_from t_to t_value t_fault t_faultAt t_live t_measure t_now t_weight)) [0, 1, 2, 3, 4] rfl
  have hDc := hD.sub (ws' := (wd_X6_wonByEven cI cZ cB cG q_t q_t_live q_t_measure q_t_now q_t_weight q_t_keys q_t_aside q_t_old q_t_saved q_t_input q_t_output q_t_planned q_t_came q_t_rank t_thrown t_oldMany t_savedSet t_inputMany t_outputMany t_errorCode t_errorPosition t_top t_ahead t_round t_loudest t_textEnd t_kind t_from t_to t_value t_fault t_faultAt t_live t_measure t_now t_weight)) [0, 1, 2, 3, 4] (by decide +kernel) rfl
  have hFc := va_free (wc := (wd_X6_wonByEven cI cZ cB cG q_t q_t_live q_t_measure q_t_now q_t_weight q_t_keys q_t_aside q_t_old q_t_saved q_t_input q_t_output q_t_planned q_t_came q_t_rank t_thrown t_oldMany t_savedSet t_inputMany t_outputMany t_errorCode t_errorPosition t_top t_ahead t_round t_loudest t_textEnd t_kind t_from t_to t_value t_fault t_faultAt t_live t_measure t_now t_weight)) hD hS hA [0, 1, 2, 3, 4] rfl
  refine va_calli (va_runV (As := []) (rest := []) ⟨hx, hb, hml, hown, hts⟩ (c_X6_wonByEven l D X cI cZ cB cG H.size q_t q_t_live q_t_measure q_t_now q_t_weight q_t_keys q_t_aside q_t_old q_t_saved q_t_input q_t_output q_t_planned q_t_came q_t_rank t_thrown t_oldMany t_savedSet t_inputMany t_outputMany t_errorCode t_errorPosition t_top t_ahead t_round t_loudest t_textEnd t_kind t_from t_to t_value t_fault t_faultAt t_live t_measure t_now t_weight _ hf) (cwV 0 hts gX6_wonBy_X6_wonByEven rfl rfl rfl (by decide +kernel) ⟨Nat.le_of_ble_eq_true rfl, Nat.le_of_ble_eq_true rfl⟩) ⟨g_blind, va_recv hK hPc (ci := 6) (q0 := 0) rfl rfl, fun U hU hW => g_side hU hW hPc hK hDc hE hS hFc⟩ rfl rfl hl.1 rfl (lv_room (Nat.le_of_ble_eq_true rfl)) dX6_wonBy_1 ⟨Nat.zero_le _, Nat.zero_le _⟩) hS (fun q _ h => hFc q h) hFc (fun r_3 u t H1 locs ht hvm hw hB hz1 hk1 hS => ?_)
  obtain ⟨t_top_4, t_live_5, t_measure_6, t_weight_7⟩ := u
  obtain ⟨hP1, hK1, hD1⟩ := hB
  rw [ht] at hP1
  obtain ⟨hP, hD⟩ := g_back (wc := (wd_X6_wonByEven cI cZ cB cG q_t q_t_live q_t_measure q_t_now q_t_weight q_t_keys q_t_aside q_t_old q_t_saved q_t_input q_t_output q_t_planned q_t_came q_t_rank t_thrown t_oldMany t_savedSet t_inputMany t_outputMany t_errorCode t_errorPosition t_top t_ahead t_round t_loudest t_textEnd t_kind t_from t_to t_value t_fault t_faultAt t_live t_measure t_now t_weight)) (w1 := (wd_X6_wonByEven cI cZ cB cG q_t q_t_live q_t_measure q_t_now q_t_weight q_t_keys q_t_aside q_t_old q_t_saved q_t_input q_t_output q_t_planned q_t_came q_t_rank t_thrown t_oldMany t_savedSet t_inputMany t_outputMany t_errorCode t_errorPosition t_top_4 t_ahead t_round t_loudest t_textEnd t_kind t_from t_to t_value t_fault t_faultAt t_live_5 t_measure_6 t_now t_weight_7)) hP hD [0, 1, 2, 3, 4] rfl rfl hk1 hP1
  have hP : va_P D vwCl (wd_X6_wonBy cI cZ cB cG q_t q_t_live q_t_measure q_t_now q_t_weight q_t_keys q_t_aside q_t_old q_t_saved q_t_input q_t_output q_t_planned q_t_came q_t_rank t_thrown t_oldMany t_savedSet t_inputMany t_outputMany t_errorCode t_errorPosition t_top_4 t_ahead t_round t_loudest t_textEnd t_kind t_from t_to t_value t_fault t_faultAt t_live_5 t_measure_6 t_now t_weight_7) H1 := hP
  have hD : va_D A (wd_X6_wonBy cI cZ cB cG q_t q_t_live q_t_measure q_t_now q_t_weight q_t_keys q_t_aside q_t_old q_t_saved q_t_input q_t_output q_t_planned q_t_came q_t_rank t_thrown t_oldMany t_savedSet t_inputMany t_outputMany t_errorCode t_errorPosition t_top_4 t_ahead t_round t_loudest t_textEnd t_kind t_from t_to t_value t_fault t_faultAt t_live_5 t_measure_6 t_now t_weight_7) := hD
  have hf := hw
  generalize H1 = H at hP hS ⊢
  refine lv_istore_n (lv' := [(2, .int r_3), (0, .ref q_t), (1, .int a1)]) hx hb dX6_wonBy_4 rfl hl (by decide) rfl (fun ls hl => ?_)
  refine lv_iload_n hx hb dX6_wonBy_5 rfl (lv_at hl 2 rfl) ?_
  refine lv_if_ne (tgt := 13) hx hb dX6_wonBy_6 (by decide) (fun hc => ?_) (fun hc => ?_)
  · have hf := hf.1 hc
    refine lv_aload_n hx hb dX6_wonBy_13 rfl (lv_at hl 1 rfl) ?_
    have hPc := hP.sub (ws' := (wd_X6_all cI cZ cB cG q_t q_t_now q_t_keys q_t_aside q_t_old q_t_saved q_t_input q_t_output q_t_live q_t_weight q_t_measure q_t_planned q_t_came q_t_rank t_thrown t_oldMany t_savedSet t_inputMany t_outputMany t_errorCode t_errorPosition t_top_4 t_ahead t_round t_loudest t_textEnd t_kind t_from t_to t_value t_fault t_faultAt t_now)) [0, 3] rfl
    have hDc := hD.sub (ws' := (wd_X6_all cI cZ cB cG q_t q_t_now q_t_keys q_t_aside q_t_old q_t_saved q_t_input q_t_output q_t_live q_t_weight q_t_measure q_t_planned q_t_came q_t_rank t_thrown t_oldMany t_savedSet t_inputMany t_outputMany t_errorCode t_errorPosition t_top_4 t_ahead t_round t_loudest t_textEnd t_kind t_from t_to t_value t_fault t_faultAt t_now)) [0, 3] (by decide +kernel) rfl
    have hFc := va_free (wc := (wd_X6_all cI cZ cB cG q_t q_t_now q_t_keys q_t_aside q_t_old q_t_saved q_t_input q_t_output q_t_live q_t_weight q_t_measure q_t_planned q_t_came q_t_rank t_thrown t_oldMany t_savedSet t_inputMany t_outputMany t_errorCode t_errorPosition t_top_4 t_ahead t_round t_loudest t_textEnd t_kind t_from t_to t_value t_fault t_faultAt t_now)) hD hS hA [0, 3] rfl
    refine va_calli (va_runV (As := []) (rest := []) ⟨hx, hb, hml, hown, hts⟩ (c_X6_all l D X cI cZ cB cG H.size q_t q_t_now q_t_keys q_t_aside q_t_old q_t_saved q_t_input q_t_output q_t_live q_t_weight q_t_measure q_t_planned q_t_came q_t_rank t_thrown t_oldMany t_savedSet t_inputMany t_outputMany t_errorCode t_errorPosition t_top_4 t_ahead t_round t_loudest t_textEnd t_kind t_from t_to t_value t_fault t_faultAt t_now _ hf) (cwV 0 hts gX6_wonBy_X6_all rfl rfl rfl (by decide +kernel) ⟨Nat.le_of_ble_eq_true rfl, Nat.le_of_ble_eq_true rfl⟩) ⟨g_blind, va_recv hK hPc (ci := 6) (q0 := 0) rfl rfl, fun U hU hW => g_side hU hW hPc hK hDc hE hS hFc⟩ rfl rfl hl.1 rfl (lv_room (Nat.le_of_ble_eq_true rfl)) dX6_wonBy_14 ⟨Nat.zero_le _, Nat.zero_le _⟩) hS (fun q _ h => hFc q h) hFc (fun r_8 u t H1 locs ht hvm hw hB hz1 hk1 hS => ?_)
    obtain ⟨hP1, hK1, hD1⟩ := hB
    rw [ht] at hP1
    obtain ⟨hP, hD⟩ := g_back (wc := (wd_X6_all cI cZ cB cG q_t q_t_now q_t_keys q_t_aside q_t_old q_t_saved q_t_input q_t_output q_t_live q_t_weight q_t_measure q_t_planned q_t_came q_t_rank t_thrown t_oldMany t_savedSet t_inputMany t_outputMany t_errorCode t_errorPosition t_top_4 t_ahead t_round t_loudest t_textEnd t_kind t_from t_to t_value t_fault t_faultAt t_now)) (w1 := (wd_X6_all cI cZ cB cG q_t q_t_now q_t_keys q_t_aside q_t_old q_t_saved q_t_input q_t_output q_t_live q_t_weight q_t_measure q_t_planned q_t_came q_t_rank t_thrown t_oldMany t_savedSet t_inputMany t_outputMany t_errorCode t_errorPosition t_top_4 t_ahead t_round t_loudest t_textEnd t_kind t_from t_to t_value t_fault t_faultAt t_now)) hP hD [0, 3] rfl rfl hk1 hP1
    have hP : va_P D vwCl (wd_X6_wonBy cI cZ cB cG q_t q_t_live q_t_measure q_t_now q_t_weight q_t_keys q_t_aside q_t_old q_t_saved q_t_input q_t_output q_t_planned q_t_came q_t_rank t_thrown t_oldMany t_savedSet t_inputMany t_outputMany t_errorCode t_errorPosition t_top_4 t_ahead t_round t_loudest t_textEnd t_kind t_from t_to t_value t_fault t_faultAt t_live_5 t_measure_6 t_now t_weight_7) H1 := hP
    have hD : va_D A (wd_X6_wonBy cI cZ cB cG q_t q_t_live q_t_measure q_t_now q_t_weight q_t_keys q_t_aside q_t_old q_t_saved q_t_input q_t_output q_t_planned q_t_came q_t_rank t_thrown t_oldMany t_savedSet t_inputMany t_outputMany t_errorCode t_errorPosition t_top_4 t_ahead t_round t_loudest t_textEnd t_kind t_from t_to t_value t_fault t_faultAt t_live_5 t_measure_6 t_now t_weight_7) := hD
    have hf := hw
    generalize H1 = H at hP hS ⊢
    refine lv_iload_n hx hb dX6_wonBy_17 rfl (lv_at hl 0 rfl) ?_
    refine lv_iconst (v := (-1 : Int32)) hx hb dX6_wonBy_18 (by decide) ?_
    refine lv_ixor hx hb dX6_wonBy_19 ?_
    refine lv_iand hx hb dX6_wonBy_20 ?_
    exact hret ((r_8 &&& (r_3 ^^^ (-1 : Int32)))) (t_top_4, t_live_5, t_measure_6, t_weight_7) hf hP hD hS dX6_wonBy_21
  · have hf := hf.2 hc
    refine lv_iload_n hx hb dX6_wonBy_9 rfl (lv_at hl 0 rfl) ?_
    refine lv_goto (tgt := 21) hx hb dX6_wonBy_10 (by decide) ?_
    exact hret r_3 (t_top_4, t_live_5, t_measure_6, t_weight_7) hf hP hD hS dX6_wonBy_21
abbrev wd_X6_only (cI cZ cB cG : ClassId) (q_t : Nat) (q_t_live : Nat) (q_t_now : Nat) (q_t_keys : Nat) (q_t_aside : Nat) (q_t_old : Nat) (q_t_saved : Nat) (q_t_input : Nat) (q_t_output : Nat) (q_t_weight : Nat) (q_t_measure : Nat) (q_t_planned : Nat) (q_t_came : Nat) (q_t_rank : Nat) (t_thrown : Int32) (t_oldMany : Int32) (t_savedSet : Int32) (t_inputMany : Int32) (t_outputMany : Int32) (t_errorCode : Int32) (t_errorPosition : Int32) (t_top : Int32) (t_ahead : Int32) (t_round : Int32) (t_loudest : Int32) (t_textEnd : Int32) (t_kind : Int32) (t_from : Int32) (t_to : Int32) (t_value : Int32) (t_fault : Int32) (t_faultAt : Int32) (t_live : (Nat → Int32)) (t_now : (Nat → Int32)) : va_W := [(q_t, .inr (6, [.ref q_t_keys, .int t_thrown, .ref q_t_now, .ref q_t_aside, .ref q_t_old, .int t_oldMany, .ref q_t_saved, .int t_savedSet, .ref q_t_input, .int t_inputMany, .ref q_t_output, .int t_outputMany, .int t_errorCode, .int t_errorPosition, .ref q_t_live, .ref q_t_weight, .ref q_t_measure, .int t_top, .ref q_t_planned, .ref q_t_came, .ref q_t_rank, .int t_ahead, .int t_round, .int t_loudest, .int t_textEnd, .int t_kind, .int t_from, .int t_to, .int t_value, .int t_fault, .int t_faultAt])), (q_t_live, .inl (cI, 61, .inl t_live)), (q_t_now, .inl (cI, 176, .inl t_now))]
def F_X6_only_2 (v1 : Int32) (v2 : Int32) (t_now : (Nat → Int32)) (K0 : Int32 → (Nat → Int32) → Prop) (rec : Int32 → (Nat → Int32) → Prop) (v3 : Int32) (t_live : (Nat → Int32)) : Prop := (((t_now 1) ≤ v3 → (K0 v3 t_live)) ∧ (¬ ((t_now 1) ≤ v3) → (vp_in (((44 : Int32) + v3)) 176 ∧ ((¬ (t_now (((44 : Int32) + v3)).toNatClampNeg) = v1 → (rec ((v3 + (1 : Int32))) t_live)) ∧ ((t_now (((44 : Int32) + v3)).toNatClampNeg) = v1 → ((¬ v3 = v2 → (vp_in v3 61 ∧ (rec ((v3 + (1 : Int32))) ((upd t_live v3.toNatClampNeg (0 : Int32)))))) ∧ (v3 = v2 → (vp_in v3 61 ∧ (rec ((v3 + (1 : Int32))) ((upd t_live v3.toNatClampNeg (1 : Int32))))))))))))
def wp_X6_only (a1 : Int32) (a2 : Int32) (t_live : (Nat → Int32)) (t_now : (Nat → Int32)) (post : (Nat → Int32) → Prop) : Prop := (∃ n, fx2 (F_X6_only_2 a1 a2 t_now (fun v3_1 t_live_2 => (post t_live_2))) n (0 : Int32) t_live)
abbrev rm_X6_only : Room := { frames := 1, cells := 0, slots := 0, locals := 80 }
theorem in_X6_only_X6 : ∀ w ∈ u_ws RX6 TX6 31, w ∈ wsX6_only := by decide +kernel
theorem k_X6_only_13 : Cond.fieldLink RX6 13 "ParityGameModel" "now" "[I" ∈ wsX6_only := by decide +kernel
theorem k_X6_only_36 : Cond.fieldLink RX6 36 "ParityGameModel" "live" "[I" ∈ wsX6_only := by decide +kernel
set_option maxHeartbeats 40000000 in
set_option maxRecDepth 100000 in
theorem c_X6_only (l : Launch) (D : va_G) (X : gX) (cI cZ cB cG : ClassId) (sz : Nat) (q_t : Nat) (q_t_live : Nat) (q_t_now : Nat) (q_t_keys : Nat) (q_t_aside : Nat) (q_t_old : Nat) (q_t_saved : Nat) (q_t_input : Nat) (q_t_output : Nat) (q_t_weight : Nat) (q_t_measure : Nat) (q_t_planned : Nat) (q_t_came : Nat) (q_t_rank : Nat) (a1 : Int32) (a2 : Int32) (t_thrown : Int32) (t_oldMany : Int32) (t_savedSet : Int32) (t_inputMany : Int32) (t_outputMany : Int32) (t_errorCode : Int32) (t_errorPosition : Int32) (t_top : Int32) (t_ahead : Int32) (t_round : Int32) (t_loudest : Int32) (t_textEnd : Int32) (t_kind : Int32) (t_from : Int32) (t_to : Int32) (t_value : Int32) (t_fault : Int32) (t_faultAt : Int32) (t_live : (Nat → Int32)) (t_now : (Nat → Int32)) (post : (Nat → Int32) → Prop) (hf : wp_X6_only a1 a2 t_live t_now post) : Met l yX6_only wsX6_only rm_X6_only (gP D X (gT cI cZ cB cG) sz [.ref q_t, .int a1, .int a2] (wd_X6_only cI cZ cB cG q_t q_t_live q_t_now q_t_keys q_t_aside q_t_old q_t_saved q_t_input q_t_output q_t_weight q_t_measure q_t_planned q_t_came q_t_rank t_thrown t_oldMany t_savedSet t_inputMany t_outputMany t_errorCode t_errorPosition t_top t_ahead t_round t_loudest t_textEnd t_kind t_from t_to t_value t_fault t_faultAt t_live t_now)) (va_Qv (fun (u : (Nat → Int32)) => post u) (fun u t => gB D (gT cI cZ cB cG) (va_A (wd_X6_only cI cZ cB cG q_t q_t_live q_t_now q_t_keys q_t_aside q_t_old q_t_saved q_t_input q_t_output q_t_weight q_t_measure q_t_planned q_t_came q_t_rank t_thrown t_oldMany t_savedSet t_inputMany t_outputMany t_errorCode t_errorPosition t_top t_ahead t_round t_loudest t_textEnd t_kind t_from t_to t_value t_fault t_faultAt t_live t_now) sz) (wd_X6_only cI cZ cB cG q_t q_t_live q_t_now q_t_keys q_t_aside q_t_old q_t_saved q_t_input q_t_output q_t_weight q_t_measure q_t_planned q_t_came q_t_rank t_thrown t_oldMany t_savedSet t_inputMany t_outputMany t_errorCode t_errorPosition t_top t_ahead t_round t_loudest t_textEnd t_kind t_from t_to t_value t_fault t_faultAt u t_now) t) (va_A (wd_X6_only cI cZ cB cG q_t q_t_live q_t_now q_t_keys q_t_aside q_t_old q_t_saved q_t_input q_t_output q_t_weight q_t_measure q_t_planned q_t_came q_t_rank t_thrown t_oldMany t_savedSet t_inputMany t_outputMany t_errorCode t_errorPosition t_top t_ahead t_round t_loudest t_textEnd t_kind t_from t_to t_value t_fault t_faultAt t_live t_now) sz)) 0 0 (va_A (wd_X6_only cI cZ cB cG q_t q_t_live q_t_now q_t_keys q_t_aside q_t_old q_t_saved q_t_input q_t_output q_t_weight q_t_measure q_t_planned q_t_came q_t_rank t_thrown t_oldMany t_savedSet t_inputMany t_outputMany t_errorCode t_errorPosition t_top t_ahead t_round t_loudest t_textEnd t_kind t_from t_to t_value t_fault t_faultAt t_live t_now) sz) := by
  refine g_ofWv (cc := cX6_only) (maxL := 4) (by decide +kernel) (Nat.le_of_ble_eq_true rfl) rfl ?_
  intro p e s m args below meth c A Q hx hb hml hown hts hA hK hE H hP hD hS ls hl hret
  have hinX6 := in_X6_only_X6
  have k13 := hts _ k_X6_only_13
  have k36 := hts _ k_X6_only_36
  have hl : lv_has ls 4 [(0, .ref q_t), (1, .int a1), (2, .int a2)] := hl
  have L2 : ∀ (v1 : Int32) (v2 : Int32) (K0 : Int32 → (Nat → Int32) → Prop) (_ : ∀ (v3 : Int32) (t_live : (Nat → Int32)) (H : Heap) (locs : List Loc) (ls : Array Slot), K0 v3 t_live → va_P D vwCl (wd_X6_only cI cZ cB cG q_t q_t_live q_t_now q_t_keys q_t_aside q_t_old q_t_saved q_t_input q_t_output q_t_weight q_t_measure q_t_planned q_t_came q_t_rank t_thrown t_oldMany t_savedSet t_inputMany t_outputMany t_errorCode t_errorPosition t_top t_ahead t_round t_loudest t_textEnd t_kind t_from t_to t_value t_fault t_faultAt t_live t_now) H → va_D A (wd_X6_only cI cZ cB cG q_t q_t_live q_t_now q_t_keys q_t_aside q_t_old q_t_saved q_t_input q_t_output q_t_weight q_t_measure q_t_planned q_t_came q_t_rank t_thrown t_oldMany t_savedSet t_inputMany t_outputMany t_errorCode t_errorPosition t_top t_ahead t_round t_loudest t_textEnd t_kind t_from t_to t_value t_fault t_faultAt t_live t_now) → va_S A s.heap H locs → lv_has ls 4 [] → W p l e (rm_X6_only) s m args below meth c H locs 0 0 Q (F0 m 47 ls []))  (n : Nat) (v3 : Int32) (t_live : (Nat → Int32)) (H : Heap) (locs : List Loc) (ls : Array Slot), fx2 (F_X6_only_2 v1 v2 t_now K0) n v3 t_live → va_P D vwCl (wd_X6_only cI cZ cB cG q_t q_t_live q_t_now q_t_keys q_t_aside q_t_old q_t_saved q_t_input q_t_output q_t_weight q_t_measure q_t_planned q_t_came q_t_rank t_thrown t_oldMany t_savedSet t_inputMany t_outputMany t_errorCode t_errorPosition t_top t_ahead t_round t_loudest t_textEnd t_kind t_from t_to t_value t_fault t_faultAt t_live t_now) H → va_D A (wd_X6_only cI cZ cB cG q_t q_t_live q_t_now q_t_keys q_t_aside q_t_old q_t_saved q_t_input q_t_output q_t_weight q_t_measure q_t_planned q_t_came q_t_rank t_thrown t_oldMany t_savedSet t_inputMany t_outputMany t_errorCode t_errorPosition t_top t_ahead t_round t_loudest t_textEnd t_kind t_from t_to t_value t_fault t_faultAt t_live t_now) → va_S A s.heap H locs → lv_has ls 4 [(0, .ref q_t), (1, .int v1), (2, .int v2), (3, .int v3)] → W p l e (rm_X6_only) s m args below meth c H locs 0 0 Q (F0 m 2 ls []) := by
    intro v1 v2 K0 hK0 n
    induction n with
    | zero => intro v3 t_live H locs ls hf; exact (hf : False).elim
    | succ n ih =>
      intro v3 t_live H locs ls hf hP hD hS hl
      have hf : F_X6_only_2 v1 v2 t_now K0 (fx2 (F_X6_only_2 v1 v2 t_now K0) n) v3 t_live := hf
      unfold F_X6_only_2 at hf
      refine lv_iload_n hx hb dX6_only_2 rfl (lv_at hl 3 rfl) ?_
      refine lv_aload_n hx hb dX6_only_3 rfl (lv_at hl 0 rfl) ?_
      refine va_get (D := D) (ci := 6) (v := .ref q_t_now) (C := RX6) (T := TX6) (N := 31) hx hb hts hinX6 hown hK hP 0 rfl rfl 2 (by decide) k13 (fun _ h9 => h9) rfl dX6_only_4 ?_
      refine lv_iconst (v := (1 : Int32)) hx hb dX6_only_7 (by decide) ?_
      refine va_iald hx hb hK hP 2 0 rfl rfl (n := 176) (by unfold vp_in; decide) dX6_only_8 ?_
      refine lv_icmp_ge (tgt := 47) hx hb dX6_only_9 (by decide) (fun hc => ?_) (fun hc => ?_)
      · have hf := hf.1 hc
        exact hK0 _ _ _ _ _ hf hP hD hS (lv_sub hl [] rfl)
      · have hf := hf.2 hc
        refine lv_aload_n hx hb dX6_only_12 rfl (lv_at hl 0 rfl) ?_
        refine va_get (D := D) (ci := 6) (v := .ref q_t_now) (C := RX6) (T := TX6) (N := 31) hx hb hts hinX6 hown hK hP 0 rfl rfl 2 (by decide) k13 (fun _ h9 => h9) rfl dX6_only_13 ?_
        refine lv_bipush (v := (44 : Int32)) hx hb dX6_only_16 (by decide) ?_
        refine lv_iload_n hx hb dX6_only_18 rfl (lv_at hl 3 rfl) ?_
        refine lv_iadd hx hb dX6_only_19 ?_
        refine va_iald hx hb hK hP 2 0 rfl rfl (n := 176) hf.1 dX6_only_20 ?_
        have hf := hf.2
        refine lv_iload_n hx hb dX6_only_21 rfl (lv_at hl 1 rfl) ?_
        refine lv_icmp_ne (tgt := 41) hx hb dX6_only_22 (by decide) (fun hc => ?_) (fun hc => ?_)
        · have hf := hf.1 hc
          refine lv_iinc (v := (v3 + (1 : Int32))) (lv' := [(3, .int ((v3 + (1 : Int32)))), (0, .ref q_t), (1, .int v1), (2, .int v2)]) hx hb dX6_only_41 hl (k := 3) rfl rfl (by decide) rfl (fun ls hl => ?_)
          refine lv_goto (tgt := 2) hx hb dX6_only_44 (by decide) ?_
          exact ih _ _ _ _ _ hf hP hD hS (lv_sub hl [1, 2, 3, 0] rfl)
        · have hf := hf.2 hc
          refine lv_aload_n hx hb dX6_only_25 rfl (lv_at hl 0 rfl) ?_
          refine va_get (D := D) (ci := 6) (v := .ref q_t_live) (C := RX6) (T := TX6) (N := 31) hx hb hts hinX6 hown hK hP 0 rfl rfl 14 (by decide) k36 (fun _ h9 => h9) rfl dX6_only_26 ?_
          refine lv_iload_n hx hb dX6_only_29 rfl (lv_at hl 3 rfl) ?_
          refine lv_iload_n hx hb dX6_only_30 rfl (lv_at hl 3 rfl) ?_
          refine lv_iload_n hx hb dX6_only_31 rfl (lv_at hl 2 rfl) ?_
          refine lv_icmp_ne (tgt := 39) hx hb dX6_only_32 (by decide) (fun hc => ?_) (fun hc => ?_)
          · have hf := hf.1 hc
            refine lv_iconst (v := (0 : Int32)) hx hb dX6_only_39 (by decide) ?_
            refine va_iast hx hb hK hP hD hS 1 0 rfl rfl (n := 61) hf.1 dX6_only_40 (fun H locs hP hD hS => ?_)
            have hf := hf.2
            have hP : va_P D vwCl (wd_X6_only cI cZ cB cG q_t q_t_live q_t_now q_t_keys q_t_aside q_t_old q_t_saved q_t_input q_t_output q_t_weight q_t_measure q_t_planned q_t_came q_t_rank t_thrown t_oldMany t_savedSet t_inputMany t_outputMany t_errorCode t_errorPosition t_top t_ahead t_round t_loudest t_textEnd t_kind t_from t_to t_value t_fault t_faultAt ((upd t_live v3.toNatClampNeg (0 : Int32))) t_now) H := hP
            have hD : va_D A (wd_X6_only cI cZ cB cG q_t q_t_live q_t_now q_t_keys q_t_aside q_t_old q_t_saved q_t_input q_t_output q_t_weight q_t_measure q_t_planned q_t_came q_t_rank t_thrown t_oldMany t_savedSet t_inputMany t_outputMany t_errorCode t_errorPosition t_top t_ahead t_round t_loudest t_textEnd t_kind t_from t_to t_value t_fault t_faultAt ((upd t_live v3.toNatClampNeg (0 : Int32))) t_now) := hD
            refine lv_iinc (v := (v3 + (1 : Int32))) (lv' := [(3, .int ((v3 + (1 : Int32)))), (0, .ref q_t), (1, .int v1), (2, .int v2)]) hx hb dX6_only_41 hl (k := 3) rfl rfl (by decide) rfl (fun ls hl => ?_)
            refine lv_goto (tgt := 2) hx hb dX6_only_44 (by decide) ?_
            exact ih _ _ _ _ _ hf hP hD hS (lv_sub hl [1, 2, 3, 0] rfl)
          · have hf := hf.2 hc
            refine lv_iconst (v := (1 : Int32)) hx hb dX6_only_35 (by decide) ?_
            refine lv_goto (tgt := 40) hx hb dX6_only_36 (by decide) ?_
            refine va_iast hx hb hK hP hD hS 1 0 rfl rfl (n := 61) hf.1 dX6_only_40 (fun H locs hP hD hS => ?_)
            have hf := hf.2
            have hP : va_P D vwCl (wd_X6_only cI cZ cB cG q_t q_t_live q_t_now q_t_keys q_t_aside q_t_old q_t_saved q_t_input q_t_output q_t_weight q_t_measure q_t_planned q_t_came q_t_rank t_thrown t_oldMany t_savedSet t_inputMany t_outputMany t_errorCode t_errorPosition t_top t_ahead t_round t_loudest t_textEnd t_kind t_from t_to t_value t_fault t_faultAt ((upd t_live v3.toNatClampNeg (1 : Int32))) t_now) H := hP
            have hD : va_D A (wd_X6_only cI cZ cB cG q_t q_t_live q_t_now q_t_keys q_t_aside q_t_old q_t_saved q_t_input q_t_output q_t_weight q_t_measure q_t_planned q_t_came q_t_rank t_thrown t_oldMany t_savedSet t_inputMany t_outputMany t_errorCode t_errorPosition t_top t_ahead t_round t_loudest t_textEnd t_kind t_from t_to t_value t_fault t_faultAt ((upd t_live v3.toNatClampNeg (1 : Int32))) t_now) := hD
            refine lv_iinc (v := (v3 + (1 : Int32))) (lv' := [(3, .int ((v3 + (1 : Int32)))), (0, .ref q_t), (1, .int v1), (2, .int v2)]) hx hb dX6_only_41 hl (k := 3) rfl rfl (by decide) rfl (fun ls hl => ?_)
            refine lv_goto (tgt := 2) hx hb dX6_only_44 (by decide) ?_
            exact ih _ _ _ _ _ hf hP hD hS (lv_sub hl [1, 2, 3, 0] rfl)
  unfold wp_X6_only at hf
  refine lv_iconst (v := (0 : Int32)) hx hb dX6_only_0 (by decide) ?_
  refine lv_istore_n (lv' := [(3, .int (0 : Int32)), (0, .ref q_t), (1, .int a1), (2, .int a2)]) hx hb dX6_only_1 rfl hl (by decide) rfl (fun ls hl => ?_)
  obtain ⟨n, hf⟩ := hf
  refine L2 a1 a2 _ ?_  n _ _ _ _ _ hf hP hD hS (lv_sub hl [1, 2, 3, 0] rfl)
  intro v3_1 t_live_2 H locs ls hf hP hD hS hl
  exact hret t_live_2 hf hP hD hS dX6_only_47
abbrev wd_X6_firstMove (cI cZ cB cG : ClassId) (q_t : Nat) (q_t_now : Nat) (q_t_keys : Nat) (q_t_aside : Nat) (q_t_old : Nat) (q_t_saved : Nat) (q_t_input : Nat) (q_t_output : Nat) (q_t_live : Nat) (q_t_weight : Nat) (q_t_measure : Nat) (q_t_planned : Nat) (q_t_came : Nat) (q_t_rank : Nat) (t_thrown : Int32) (t_oldMany : Int32) (t_savedSet : Int32) (t_inputMany : Int32) (t_outputMany : Int32) (t_errorCode : Int32) (t_errorPosition : Int32) (t_top : Int32) (t_ahead : Int32) (t_round : Int32) (t_loudest : Int32) (t_textEnd : Int32) (t_kind : Int32) (t_from : Int32) (t_to : Int32) (t_value : Int32) (t_fault : Int32) (t_faultAt : Int32) (t_now : (Nat → Int32)) : va_W := [(q_t, .inr (6, [.ref q_t_keys, .int t_thrown, .ref q_t_now, .ref q_t_aside, .ref q_t_old, .int t_oldMany, .ref q_t_saved, .int t_savedSet, .ref q_t_input, .int t_inputMany, .ref q_t_output, .int t_outputMany, .int t_errorCode, .int t_errorPosition, .ref q_t_live, .ref q_t_weight, .ref q_t_measure, .int t_top, .ref q_t_planned, .ref q_t_came, .ref q_t_rank, .int t_ahead, .int t_round, .int t_loudest, .int t_textEnd, .int t_kind, .int t_from, .int t_to, .int t_value, .int t_fault, .int t_faultAt])), (q_t_now, .inl (cI, 176, .inl t_now))]
def F_X6_firstMove_2 (v1 : Int32) (t_now : (Nat → Int32)) (post : Int32 → Prop) (K0 : Int32 → Prop) (rec : Int32 → Prop) (v2 : Int32) : Prop := (((t_now 1) ≤ v2 → (K0 v2)) ∧ (¬ ((t_now 1) ≤ v2) → (vp_in (((44 : Int32) + v2)) 176 ∧ ((¬ (t_now (((44 : Int32) + v2)).toNatClampNeg) = v1 → (rec ((v2 + (1 : Int32))))) ∧ ((t_now (((44 : Int32) + v2)).toNatClampNeg) = v1 → (post v2))))))
def wp_X6_firstMove (a1 : Int32) (t_now : (Nat → Int32)) (post : Int32 → Prop) : Prop := (∃ n, fx1 (F_X6_firstMove_2 a1 t_now post (fun v2_1 => (post (-1 : Int32)))) n (0 : Int32))
abbrev rm_X6_firstMove : Room := { frames := 1, cells := 0, slots := 0, locals := 80 }
theorem in_X6_firstMove_X6 : ∀ w ∈ u_ws RX6 TX6 31, w ∈ wsX6_firstMove := by decide +kernel
theorem k_X6_firstMove_13 : Cond.fieldLink RX6 13 "ParityGameModel" "now" "[I" ∈ wsX6_firstMove := by decide +kernel
set_option maxHeartbeats 40000000 in
set_option maxRecDepth 100000 in
theorem c_X6_firstMove (l : Launch) (D : va_G) (X : gX) (cI cZ cB cG : ClassId) (sz : Nat) (q_t : Nat) (q_t_now : Nat) (q_t_keys : Nat) (q_t_aside : Nat) (q_t_old : Nat) (q_t_saved : Nat) (q_t_input : Nat) (q_t_output : Nat) (q_t_live : Nat) (q_t_weight : Nat) (q_t_measure : Nat) (q_t_planned : Nat) (q_t_came : Nat) (q_t_rank : Nat) (a1 : Int32) (t_thrown : Int32) (t_oldMany : Int32) (t_savedSet : Int32) (t_inputMany : Int32) (t_outputMany : Int32) (t_errorCode : Int32) (t_errorPosition : Int32) (t_top : Int32) (t_ahead : Int32) (t_round : Int32) (t_loudest : Int32) (t_textEnd : Int32) (t_kind : Int32) (t_from : Int32) (t_to : Int32) (t_value : Int32) (t_fault : Int32) (t_faultAt : Int32) (t_now : (Nat → Int32)) (post : Int32 → Prop) (hf : wp_X6_firstMove a1 t_now post) : Met l yX6_firstMove wsX6_firstMove rm_X6_firstMove (gP D X (gT cI cZ cB cG) sz [.ref q_t, .int a1] (wd_X6_firstMove cI cZ cB cG q_t q_t_now q_t_keys q_t_aside q_t_old q_t_saved q_t_input q_t_output q_t_live q_t_weight q_t_measure q_t_planned q_t_came q_t_rank t_thrown t_oldMany t_savedSet t_inputMany t_outputMany t_errorCode t_errorPosition t_top t_ahead t_round t_loudest t_textEnd t_kind t_from t_to t_value t_fault t_faultAt t_now)) (va_Qi (fun (r : Int32) (u : Unit) => post r) (fun u t => gB D (gT cI cZ cB cG) (va_A (wd_X6_firstMove cI cZ cB cG q_t q_t_now q_t_keys q_t_aside q_t_old q_t_saved q_t_input q_t_output q_t_live q_t_weight q_t_measure q_t_planned q_t_came q_t_rank t_thrown t_oldMany t_savedSet t_inputMany t_outputMany t_errorCode t_errorPosition t_top t_ahead t_round t_loudest t_textEnd t_kind t_from t_to t_value t_fault t_faultAt t_now) sz) (wd_X6_firstMove cI cZ cB cG q_t q_t_now q_t_keys q_t_aside q_t_old q_t_saved q_t_input q_t_output q_t_live q_t_weight q_t_measure q_t_planned q_t_came q_t_rank t_thrown t_oldMany t_savedSet t_inputMany t_outputMany t_errorCode t_errorPosition t_top t_ahead t_round t_loudest t_textEnd t_kind t_from t_to t_value t_fault t_faultAt t_now) t) (va_A (wd_X6_firstMove cI cZ cB cG q_t q_t_now q_t_keys q_t_aside q_t_old q_t_saved q_t_input q_t_output q_t_live q_t_weight q_t_measure q_t_planned q_t_came q_t_rank t_thrown t_oldMany t_savedSet t_inputMany t_outputMany t_errorCode t_errorPosition t_top t_ahead t_round t_loudest t_textEnd t_kind t_from t_to t_value t_fault t_faultAt t_now) sz)) 0 0 (va_A (wd_X6_firstMove cI cZ cB cG q_t q_t_now q_t_keys q_t_aside q_t_old q_t_saved q_t_input q_t_output q_t_live q_t_weight q_t_measure q_t_planned q_t_came q_t_rank t_thrown t_oldMany t_savedSet t_inputMany t_outputMany t_errorCode t_errorPosition t_top t_ahead t_round t_loudest t_textEnd t_kind t_from t_to t_value t_fault t_faultAt t_now) sz) := by
  refine g_ofWi (cc := cX6_firstMove) (maxL := 3) (by decide +kernel) (Nat.le_of_ble_eq_true rfl) rfl ?_
  intro p e s m args below meth c A Q hx hb hml hown hts hA hK hE H hP hD hS ls hl hret
  have hinX6 := in_X6_firstMove_X6
  have k13 := hts _ k_X6_firstMove_13
  have hl : lv_has ls 3 [(0, .ref q_t), (1, .int a1)] := hl
  have L2 : ∀ (v1 : Int32) (K0 : Int32 → Prop) (_ : ∀ (v2 : Int32) (H : Heap) (locs : List Loc) (ls : Array Slot), K0 v2 → va_P D vwCl (wd_X6_firstMove cI cZ cB cG q_t q_t_now q_t_keys q_t_aside q_t_old q_t_saved q_t_input q_t_output q_t_live q_t_weight q_t_measure q_t_planned q_t_came q_t_rank t_thrown t_oldMany t_savedSet t_inputMany t_outputMany t_errorCode t_errorPosition t_top t_ahead t_round t_loudest t_textEnd t_kind t_from t_to t_value t_fault t_faultAt t_now) H → va_D A (wd_X6_firstMove cI cZ cB cG q_t q_t_now q_t_keys q_t_aside q_t_old q_t_saved q_t_input q_t_output q_t_live q_t_weight q_t_measure q_t_planned q_t_came q_t_rank t_thrown t_oldMany t_savedSet t_inputMany t_outputMany t_errorCode t_errorPosition t_top t_ahead t_round t_loudest t_textEnd t_kind t_from t_to t_value t_fault t_faultAt t_now) → va_S A s.heap H locs → lv_has ls 3 [] → W p l e (rm_X6_firstMove) s m args below meth c H locs 0 0 Q (F0 m 33 ls []))  (n : Nat) (v2 : Int32) (H : Heap) (locs : List Loc) (ls : Array Slot), fx1 (F_X6_firstMove_2 v1 t_now post K0) n v2 → va_P D vwCl (wd_X6_firstMove cI cZ cB cG q_t q_t_now q_t_keys q_t_aside q_t_old q_t_saved q_t_input q_t_output q_t_live q_t_weight q_t_measure q_t_planned q_t_came q_t_rank t_thrown t_oldMany t_savedSet t_inputMany t_outputMany t_errorCode t_errorPosition t_top t_ahead t_round t_loudest t_textEnd t_kind t_from t_to t_value t_fault t_faultAt t_now) H → va_D A (wd_X6_firstMove cI cZ cB cG q_t q_t_now q_t_keys q_t_aside q_t_old q_t_saved q_t_input q_t_output q_t_live q_t_weight q_t_measure q_t_planned q_t_came q_t_rank t_thrown t_oldMany t_savedSet t_inputMany t_outputMany t_errorCode t_errorPosition t_top t_ahead t_round t_loudest t_textEnd t_kind t_from t_to t_value t_fault t_faultAt t_now) → va_S A s.heap H locs → lv_has ls 3 [(0, .ref q_t), (1, .int v1), (2, .int v2)] → W p l e (rm_X6_firstMove) s m args below meth c H locs 0 0 Q (F0 m 2 ls []) := by
    intro v1 K0 hK0 n
    induction n with
    | zero => intro v2 H locs ls hf; exact (hf : False).elim
    | succ n ih =>
      intro v2 H locs ls hf hP hD hS hl
      have hf : F_X6_firstMove_2 v1 t_now post K0 (fx1 (F_X6_firstMove_2 v1 t_now post K0) n) v2 := hf
      unfold F_X6_firstMove_2 at hf
      refine lv_iload_n hx hb dX6_firstMove_2 rfl (lv_at hl 2 rfl) ?_
      refine lv_aload_n hx hb dX6_firstMove_3 rfl (lv_at hl 0 rfl) ?_
      refine va_get (D := D) (ci := 6) (v := .ref q_t_now) (C := RX6) (T := TX6) (N := 31) hx hb hts hinX6 hown hK hP 0 rfl rfl 2 (by decide) k13 (fun _ h9 => h9) rfl dX6_firstMove_4 ?_
      refine lv_iconst (v := (1 : Int32)) hx hb dX6_firstMove_7 (by decide) ?_
      refine va_iald hx hb hK hP 1 0 rfl rfl (n := 176) (by unfold vp_in; decide) dX6_firstMove_8 ?_
      refine lv_icmp_ge (tgt := 33) hx hb dX6_firstMove_9 (by decide) (fun hc => ?_) (fun hc => ?_)
      · have hf := hf.1 hc
        exact hK0 _ _ _ _ hf hP hD hS (lv_sub hl [] rfl)
      · have hf := hf.2 hc
        refine lv_aload_n hx hb dX6_firstMove_12 rfl (lv_at hl 0 rfl) ?_
        refine va_get (D := D) (ci := 6) (v := .ref q_t_now) (C := RX6) (T := TX6) (N := 31) hx hb hts hinX6 hown hK hP 0 rfl rfl 2 (by decide) k13 (fun _ h9 => h9) rfl dX6_firstMove_13 ?_
        refine lv_bipush (v := (44 : Int32)) hx hb dX6_firstMove_16 (by decide) ?_
        refine lv_iload_n hx hb dX6_firstMove_18 rfl (lv_at hl 2 rfl) ?_
        refine lv_iadd hx hb dX6_firstMove_19 ?_
        refine va_iald hx hb hK hP 1 0 rfl rfl (n := 176) hf.1 dX6_firstMove_20 ?_
        have hf := hf.2
        refine lv_iload_n hx hb dX6_firstMove_21 rfl (lv_at hl 1 rfl) ?_
        refine lv_icmp_ne (tgt := 27) hx hb dX6_firstMove_22 (by decide) (fun hc => ?_) (fun hc => ?_)
        · have hf := hf.1 hc
          refine lv_iinc (v := (v2 + (1 : Int32))) (lv' := [(2, .int ((v2 + (1 : Int32)))), (0, .ref q_t), (1, .int v1)]) hx hb dX6_firstMove_27 hl (k := 2) rfl rfl (by decide) rfl (fun ls hl => ?_)
          refine lv_goto (tgt := 2) hx hb dX6_firstMove_30 (by decide) ?_
          exact ih _ _ _ _ hf hP hD hS (lv_sub hl [1, 2, 0] rfl)
        · have hf := hf.2 hc
          refine lv_iload_n hx hb dX6_firstMove_25 rfl (lv_at hl 2 rfl) ?_
          exact hret v2 () hf hP hD hS dX6_firstMove_26
  unfold wp_X6_firstMove at hf
  refine lv_iconst (v := (0 : Int32)) hx hb dX6_firstMove_0 (by decide) ?_
  refine lv_istore_n (lv' := [(2, .int (0 : Int32)), (0, .ref q_t), (1, .int a1)]) hx hb dX6_firstMove_1 rfl hl (by decide) rfl (fun ls hl => ?_)
  obtain ⟨n, hf⟩ := hf
  refine L2 a1 _ ?_  n _ _ _ _ hf hP hD hS (lv_sub hl [1, 2, 0] rfl)
  intro v2_1 H locs ls hf hP hD hS hl
  refine lv_iconst (v := (-1 : Int32)) hx hb dX6_firstMove_33 (by decide) ?_
  exact hret (-1 : Int32) () hf hP hD hS dX6_firstMove_34
abbrev wd_X6_plansFor (cI cZ cB cG : ClassId) (q_t : Nat) (q_t_live : Nat) (q_t_measure : Nat) (q_t_now : Nat) (q_t_planned : Nat) (q_t_weight : Nat) (q_t_keys : Nat) (q_t_aside : Nat) (q_t_old : Nat) (q_t_saved : Nat) (q_t_input : Nat) (q_t_output : Nat) (q_t_came : Nat) (q_t_rank : Nat) (t_thrown : Int32) (t_oldMany : Int32) (t_savedSet : Int32) (t_inputMany : Int32) (t_outputMany : Int32) (t_errorCode : Int32) (t_errorPosition : Int32) (t_top : Int32) (t_ahead : Int32) (t_round : Int32) (t_loudest : Int32) (t_textEnd : Int32) (t_kind : Int32) (t_from : Int32) (t_to : Int32) (t_value : Int32) (t_fault : Int32) (t_faultAt : Int32) (t_live : (Nat → Int32)) (t_measure : (Nat → Int32)) (t_now : (Nat → Int32)) (t_planned : (Nat → Int32)) (t_weight : (Nat → Int32)) : va_W := [(q_t, .inr (6, [.ref q_t_keys, .int t_thrown, .ref q_t_now, .ref q_t_aside, .ref q_t_old, .int t_oldMany, .ref q_t_saved, .int t_savedSet, .ref q_t_input, .int t_inputMany, .ref q_t_output, .int t_outputMany, .int t_errorCode, .int t_errorPosition, .ref q_t_live, .ref q_t_weight, .ref q_t_measure, .int t_top, .ref q_t_planned, .ref q_t_came, .ref q_t_rank, .int t_ahead, .int t_round, .int t_loudest, .int t_textEnd, .int t_kind, .int t_from, .int t_to, .int t_value, .int t_fault, .int t_faultAt])), (q_t_live, .inl (cI, 61, .inl t_live)), (q_t_measure, .inl (cI, 20, .inl t_measure)), (q_t_now, .inl (cI, 176, .inl t_now)), (q_t_planned, .inl (cI, 20, .inl t_planned)), (q_t_weight, .inl (cI, 12, .inl t_weight))]
def F_X6_plansFor_42 (v1 : Int32) (v2 : Int32) (v3 : Int32) (t_now : (Nat → Int32)) (K0 : Int32 → Int32 → Int32 → (Nat → Int32) → (Nat → Int32) → (Nat → Int32) → (Nat → Int32) → Prop) (rec : Int32 → Int32 → Int32 → (Nat → Int32) → (Nat → Int32) → (Nat → Int32) → (Nat → Int32) → Prop) (v4 : Int32) (v5 : Int32) (t_top : Int32) (t_live : (Nat → Int32)) (t_measure : (Nat → Int32)) (t_planned : (Nat → Int32)) (t_weight : (Nat → Int32)) : Prop := (((t_now 1) ≤ v5 → (K0 v4 v5 t_top t_live t_measure t_planned t_weight)) ∧ (¬ ((t_now 1) ≤ v5) → ((¬ v4 = (0 : Int32) → (K0 v4 v5 t_top t_live t_measure t_planned t_weight)) ∧ (v4 = (0 : Int32) → (vp_in (((44 : Int32) + v5)) 176 ∧ ((¬ (t_now (((44 : Int32) + v5)).toNatClampNeg) = v3 → (rec v4 ((v5 + (1 : Int32))) t_top t_live t_measure t_planned t_weight)) ∧ ((t_now (((44 : Int32) + v5)).toNatClampNeg) = v3 → (wp_X6_only v3 v5 t_live t_now (fun t_live_6 => (wp_X6_solved t_live_6 t_measure t_now t_weight (fun r_7 t_top_8 t_measure_9 t_weight_10 => ((¬ v1 = (0 : Int32) → (wp_X6_all t_now (fun r_11 => ((¬ (v2 &&& ((r_11 &&& (r_7 ^^^ (-1 : Int32))) ^^^ (-1 : Int32))) = (0 : Int32) → (vp_in v3 20 ∧ (rec (0 : Int32) ((v5 + (1 : Int32))) t_top_8 t_live_6 t_measure_9 (upd t_planned v3.toNatClampNeg v5) t_weight_10))) ∧ ((v2 &&& ((r_11 &&& (r_7 ^^^ (-1 : Int32))) ^^^ (-1 : Int32))) = (0 : Int32) → (vp_in v3 20 ∧ (rec (1 : Int32) ((v5 + (1 : Int32))) t_top_8 t_live_6 t_measure_9 (upd t_planned v3.toNatClampNeg v5) t_weight_10))))))) ∧ (v1 = (0 : Int32) → ((¬ (v2 &&& (r_7 ^^^ (-1 : Int32))) = (0 : Int32) → (vp_in v3 20 ∧ (rec (0 : Int32) ((v5 + (1 : Int32))) t_top_8 t_live_6 t_measure_9 (upd t_planned v3.toNatClampNeg v5) t_weight_10))) ∧ ((v2 &&& (r_7 ^^^ (-1 : Int32))) = (0 : Int32) → (vp_in v3 20 ∧ (rec (1 : Int32) ((v5 + (1 : Int32))) t_top_8 t_live_6 t_measure_9 (upd t_planned v3.toNatClampNeg v5) t_weight_10)))))))))))))))))
def F_X6_plansFor_6 (v1 : Int32) (v2 : Int32) (t_now : (Nat → Int32)) (K0 : Int32 → Int32 → (Nat → Int32) → (Nat → Int32) → (Nat → Int32) → (Nat → Int32) → Prop) (rec : Int32 → Int32 → (Nat → Int32) → (Nat → Int32) → (Nat → Int32) → (Nat → Int32) → Prop) (v3 : Int32) (t_top : Int32) (t_live : (Nat → Int32)) (t_measure : (Nat → Int32)) (t_planned : (Nat → Int32)) (t_weight : (Nat → Int32)) : Prop := (((t_now 0) ≤ v3 → (K0 v3 t_top t_live t_measure t_planned t_weight)) ∧ (¬ ((t_now 0) ≤ v3) → (vp_in (((4 : Int32) + v3)) 176 ∧ ((¬ (t_now (((4 : Int32) + v3)).toNatClampNeg) = v1 → (rec ((v3 + (1 : Int32))) t_top t_live t_measure t_planned t_weight)) ∧ ((t_now (((4 : Int32) + v3)).toNatClampNeg) = v1 → (wp_X6_has v2 v3 (fun r_5 => ((r_5 = (0 : Int32) → (rec ((v3 + (1 : Int32))) t_top t_live t_measure t_planned t_weight)) ∧ (¬ (r_5 = (0 : Int32)) → (∃ n, fx7 (F_X6_plansFor_42 v1 v2 v3 t_now (fun v4_12 v5_13 t_top_14 t_live_15 t_measure_16 t_planned_17 t_weight_18 => (rec ((v3 + (1 : Int32))) t_top_14 t_live_15 t_measure_16 t_planned_17 t_weight_18))) n (0 : Int32) (0 : Int32) t_top t_live t_measure t_planned t_weight))))))))))
def wp_X6_plansFor (a1 : Int32) (a2 : Int32) (t_top : Int32) (t_live : (Nat → Int32)) (t_measure : (Nat → Int32)) (t_now : (Nat → Int32)) (t_planned : (Nat → Int32)) (t_weight : (Nat → Int32)) (post : Int32 → (Nat → Int32) → (Nat → Int32) → (Nat → Int32) → (Nat → Int32) → Prop) : Prop := (wp_X6_looksAtAll t_live t_now (fun t_live_4 => (∃ n, fx6 (F_X6_plansFor_6 a1 a2 t_now (fun v3_19 t_top_20 t_live_21 t_measure_22 t_planned_23 t_weight_24 => (post t_top_20 t_live_21 t_measure_22 t_planned_23 t_weight_24))) n (0 : Int32) t_top t_live_4 t_measure t_planned t_weight)))
abbrev rm_X6_plansFor : Room := { frames := 4, cells := 0, slots := 0, locals := 151 }
theorem in_X6_plansFor_X6 : ∀ w ∈ u_ws RX6 TX6 31, w ∈ wsX6_plansFor := by decide +kernel
theorem k_X6_plansFor_13 : Cond.fieldLink RX6 13 "ParityGameModel" "now" "[I" ∈ wsX6_plansFor := by decide +kernel
theorem k_X6_plansFor_45 : Cond.fieldLink RX6 45 "ParityGameModel" "planned" "[I" ∈ wsX6_plansFor := by decide +kernel
set_option maxHeartbeats 40000000 in
set_option maxRecDepth 100000 in
theorem c_X6_plansFor (l : Launch) (D : va_G) (X : gX) (cI cZ cB cG : ClassId) (sz : Nat) (q_t : Nat) (q_t_live : Nat) (q_t_measure : Nat) (q_t_now : Nat) (q_t_planned : Nat) (q_t_weight : Nat) (q_t_keys : Nat) (q_t_aside : Nat) (q_t_old : Nat) (q_t_saved : Nat) (q_t_input : Nat) (q_t_output : Nat) (q_t_came : Nat) (q_t_rank : Nat) (a1 : Int32) (a2 : Int32) (t_thrown : Int32) (t_oldMany : Int32) (t_savedSet : Int32) (t_inputMany : Int32) (t_outputMany : Int32) (t_errorCode : Int32) (t_errorPosition : Int32) (t_top : Int32) (t_ahead : Int32) (t_round : Int32) (t_loudest : Int32) (t_textEnd : Int32) (t_kind : Int32) (t_from : Int32) (t_to : Int32) (t_value : Int32) (t_fault : Int32) (t_faultAt : Int32) (t_live : (Nat → Int32)) (t_measure : (Nat → Int32)) (t_now : (Nat → Int32)) (t_planned : (Nat → Int32)) (t_weight : (Nat → Int32)) (post : Int32 → (Nat → Int32) → (Nat → Int32) → (Nat → Int32) → (Nat → Int32) → Prop) (hf : wp_X6_plansFor a1 a2 t_top t_live t_measure t_now t_planned t_weight post) : Met l yX6_plansFor wsX6_plansFor rm_X6_plansFor (gP D X (gT cI cZ cB cG) sz [.ref q_t, .int a1, .int a2] (wd_X6_plansFor cI cZ cB cG q_t q_t_live q_t_measure q_t_now q_t_planned q_t_weight q_t_keys q_t_aside q_t_old q_t_saved q_t_input q_t_output q_t_came q_t_rank t_thrown t_oldMany t_savedSet t_inputMany t_outputMany t_errorCode t_errorPosition t_top t_ahead t_round t_loudest t_textEnd t_kind t_from t_to t_value t_fault t_faultAt t_live t_measure t_now t_planned t_weight)) (va_Qv (fun (u : Int32 × (Nat → Int32) × (Nat → Int32) × (Nat → Int32) × (Nat → Int32)) => post u.1 u.2.1 u.2.2.1 u.2.2.2.1 u.2.2.2.2) (fun u t => gB D (gT cI cZ cB cG) (va_A (wd_X6_plansFor cI cZ cB cG q_t q_t_live q_t_measure q_t_now q_t_planned q_t_weight q_t_keys q_t_aside q_t_old q_t_saved q_t_input q_t_output q_t_came q_t_rank t_thrown t_oldMany t_savedSet t_inputMany t_outputMany t_errorCode t_errorPosition t_top t_ahead t_round t_loudest t_textEnd t_kind t_from t_to t_value t_fault t_faultAt t_live t_measure t_now t_planned t_weight) sz) (wd_X6_plansFor cI cZ cB cG q_t q_t_live q_t_measure q_t_now q_t_planned q_t_weight q_t_keys q_t_aside q_t_old q_t_saved q_t_input q_t_output q_t_came q_t_rank t_thrown t_oldMany t_savedSet t_inputMany t_outputMany t_errorCode t_errorPosition u.1 t_ahead t_round t_loudest t_textEnd t_kind t_from t_to t_value t_fault t_faultAt u.2.1 u.2.2.1 t_now u.2.2.2.1 u.2.2.2.2) t) (va_A (wd_X6_plansFor cI cZ cB cG q_t q_t_live q_t_measure q_t_now q_t_planned q_t_weight q_t_keys q_t_aside q_t_old q_t_saved q_t_input q_t_output q_t_came q_t_rank t_thrown t_oldMany t_savedSet t_inputMany t_outputMany t_errorCode t_errorPosition t_top t_ahead t_round t_loudest t_textEnd t_kind t_from t_to t_value t_fault t_faultAt t_live t_measure t_now t_planned t_weight) sz)) 0 0 (va_A (wd_X6_plansFor cI cZ cB cG q_t q_t_live q_t_measure q_t_now q_t_planned q_t_weight q_t_keys q_t_aside q_t_old q_t_saved q_t_input q_t_output q_t_came q_t_rank t_thrown t_oldMany t_savedSet t_inputMany t_outputMany t_errorCode t_errorPosition t_top t_ahead t_round t_loudest t_textEnd t_kind t_from t_to t_value t_fault t_faultAt t_live t_measure t_now t_planned t_weight) sz) := by
  refine g_ofWv (cc := cX6_plansFor) (maxL := 8) (by decide +kernel) (Nat.le_of_ble_eq_true rfl) rfl ?_
  intro p e s m args below meth c A Q hx hb hml hown hts hA hK hE H hP hD hS ls hl hret
  have hinX6 := in_X6_plansFor_X6
  have k13 := hts _ k_X6_plansFor_13
  have k45 := hts _ k_X6_plansFor_45
  have hl : lv_has ls 8 [(0, .ref q_t), (1, .int a1), (2, .int a2)] := hl
  have L42 : ∀ (v1 : Int32) (v2 : Int32) (v3 : Int32) (K0 : Int32 → Int32 → Int32 → (Nat → Int32) → (Nat → Int32) → (Nat → Int32) → (Nat → Int32) → Prop) (_ : ∀ (v4 : Int32) (v5 : Int32) (t_top : Int32) (t_live : (Nat → Int32)) (t_measure : (Nat → Int32)) (t_planned : (Nat → Int32)) (t_weight : (Nat → Int32)) (H : Heap) (locs : List Loc) (ls : Array Slot), K0 v4 v5 t_top t_live t_measure t_planned t_weight → va_P D vwCl (wd_X6_plansFor cI cZ cB cG q_t q_t_live q_t_measure q_t_now q_t_planned q_t_weight q_t_keys q_t_aside q_t_old q_t_saved q_t_input q_t_output q_t_came q_t_rank t_thrown t_oldMany t_savedSet t_inputMany t_outputMany t_errorCode t_errorPosition t_top t_ahead t_round t_loudest t_textEnd t_kind t_from t_to t_value t_fault t_faultAt t_live t_measure t_now t_planned t_weight) H → va_D A (wd_X6_plansFor cI cZ cB cG q_t q_t_live q_t_measure q_t_now q_t_planned q_t_weight q_t_keys q_t_aside q_t_old q_t_saved q_t_input q_t_output q_t_came q_t_rank t_thrown t_oldMany t_savedSet t_inputMany t_outputMany t_errorCode t_errorPosition t_top t_ahead t_round t_loudest t_textEnd t_kind t_from t_to t_value t_fault t_faultAt t_live t_measure t_now t_planned t_weight) → va_S A s.heap H locs → lv_has ls 8 [(0, .ref q_t), (1, .int v1), (2, .int v2), (3, .int v3)] → W p l e (rm_X6_plansFor) s m args below meth c H locs 0 0 Q (F0 m 135 ls []))  (n : Nat) (v4 : Int32) (v5 : Int32) (t_top : Int32) (t_live : (Nat → Int32)) (t_measure : (Nat → Int32)) (t_planned : (Nat → Int32)) (t_weight : (Nat → Int32)) (H : Heap) (locs : List Loc) (ls : Array Slot), fx7 (F_X6_plansFor_42 v1 v2 v3 t_now K0) n v4 v5 t_top t_live t_measure t_planned t_weight → va_P D vwCl (wd_X6_plansFor cI cZ cB cG q_t q_t_live q_t_measure q_t_now q_t_planned q_t_weight q_t_keys q_t_aside q_t_old q_t_saved q_t_input q_t_output q_t_came q_t_rank t_thrown t_oldMany t_savedSet t_inputMany t_outputMany t_errorCode t_errorPosition t_top t_ahead t_round t_loudest t_textEnd t_kind t_from t_to t_value t_fault t_faultAt t_live t_measure t_now t_planned t_weight) H → va_D A (wd_X6_plansFor cI cZ cB cG q_t q_t_live q_t_measure q_t_now q_t_planned q_t_weight q_t_keys q_t_aside q_t_old q_t_saved q_t_input q_t_output q_t_came q_t_rank t_thrown t_oldMany t_savedSet t_inputMany t_outputMany t_errorCode t_errorPosition t_top t_ahead t_round t_loudest t_textEnd t_kind t_from t_to t_value t_fault t_faultAt t_live t_measure t_now t_planned t_weight) → va_S A s.heap H locs → lv_has ls 8 [(0, .ref q_t), (1, .int v1), (2, .int v2), (3, .int v3), (4, .int v4), (5, .int v5)] → W p l e (rm_X6_plansFor) s m args below meth c H locs 0 0 Q (F0 m 42 ls []) := by
    intro v1 v2 v3 K0 hK0 n
    induction n with
    | zero => intro v4 v5 t_top t_live t_measure t_planned t_weight H locs ls hf; exact (hf : False).elim
    | succ n ih =>
      intro v4 v5 t_top t_live t_measure t_planned t_weight H locs ls hf hP hD hS hl
      have hf : F_X6_plansFor_42 v1 v2 v3 t_now K0 (fx7 (F_X6_plansFor_42 v1 v2 v3 t_now K0) n) v4 v5 t_top t_live t_measure t_planned t_weight := hf
      unfold F_X6_plansFor_42 at hf
      refine lv_iload hx hb dX6_plansFor_42 (lv_at hl 5 rfl) ?_
      refine lv_aload_n hx hb dX6_plansFor_44 rfl (lv_at hl 0 rfl) ?_
      refine va_get (D := D) (ci := 6) (v := .ref q_t_now) (C := RX6) (T := TX6) (N := 31) hx hb hts hinX6 hown hK hP 0 rfl rfl 2 (by decide) k13 (fun _ h9 => h9) rfl dX6_plansFor_45 ?_
      refine lv_iconst (v := (1 : Int32)) hx hb dX6_plansFor_48 (by decide) ?_
      refine va_iald hx hb hK hP 3 0 rfl rfl (n := 176) (by unfold vp_in; decide) dX6_plansFor_49 ?_
      refine lv_icmp_ge (tgt := 135) hx hb dX6_plansFor_50 (by decide) (fun hc => ?_) (fun hc => ?_)
      · have hf := hf.1 hc
        exact hK0 _ _ _ _ _ _ _ _ _ _ hf hP hD hS (lv_sub hl [0, 1, 2, 3] rfl)
      · have hf := hf.2 hc
        refine lv_iload hx hb dX6_plansFor_53 (lv_at hl 4 rfl) ?_
        refine lv_if_ne (tgt := 135) hx hb dX6_plansFor_55 (by decide) (fun hc => ?_) (fun hc => ?_)
        · have hf := hf.1 hc
          exact hK0 _ _ _ _ _ _ _ _ _ _ hf hP hD hS (lv_sub hl [0, 1, 2, 3] rfl)
        · have hf := hf.2 hc
          refine lv_aload_n hx hb dX6_plansFor_58 rfl (lv_at hl 0 rfl) ?_
          refine va_get (D := D) (ci := 6) (v := .ref q_t_now) (C := RX6) (T := TX6) (N := 31) hx hb hts hinX6 hown hK hP 0 rfl rfl 2 (by decide) k13 (fun _ h9 => h9) rfl dX6_plansFor_59 ?_
          refine lv_bipush (v := (44 : Int32)) hx hb dX6_plansFor_62 (by decide) ?_
          refine lv_iload hx hb dX6_plansFor_64 (lv_at hl 5 rfl) ?_
          refine lv_iadd hx hb dX6_plansFor_66 ?_
          refine va_iald hx hb hK hP 3 0 rfl rfl (n := 176) hf.1 dX6_plansFor_67 ?_
          have hf := hf.2
          refine lv_iload_n hx hb dX6_plansFor_68 rfl (lv_at hl 3 rfl) ?_
          refine lv_icmp_ne (tgt := 129) hx hb dX6_plansFor_69 (by decide) (fun hc => ?_) (fun hc => ?_)
          · have hf := hf.1 hc
            refine lv_iinc (v := (v5 + (1 : Int32))) (lv' := [(5, .int ((v5 + (1 : Int32)))), (0, .ref q_t), (1, .int v1), (2, .int v2), (3, .int v3), (4, .int v4)]) hx hb dX6_plansFor_129 hl (k := 5) rfl rfl (by decide) rfl (fun ls hl => ?_)
            refine lv_goto (tgt := 42) hx hb dX6_plansFor_132 (by decide) ?_
            exact ih _ _ _ _ _ _ _ _ _ _ hf hP hD hS (lv_sub hl [1, 2, 3, 4, 5, 0] rfl)
          · have hf := hf.2 hc
            refine lv_aload_n hx hb dX6_plansFor_72 rfl (lv_at hl 0 rfl) ?_
            refine lv_iload_n hx hb dX6_plansFor_73 rfl (lv_at hl 3 rfl) ?_
            refine lv_iload hx hb dX6_plansFor_74 (lv_at hl 5 rfl) ?_
            have hPc := hP.sub (ws' := (wd_X6_only cI cZ cB cG q_t q_t_live q_t_now q_t_keys q_t_aside q_t_old q_t_saved q_t_input q_t_output q_t_weight q_t_measure q_t_planned q_t_came q_t_rank t_thrown t_oldMany t_savedSet t_inputMany t_outputMany t_errorCode t_errorPosition t_top t_ahead t_round t_loudest t_textEnd t_kind t_from t_to t_value t_fault t_faultAt t_live t_now)) [0, 1, 3] rfl
            have hDc := hD.sub (ws' := (wd_X6_only cI cZ cB cG q_t q_t_live q_t_now q_t_keys q_t_aside q_t_old q_t_saved q_t_input q_t_output q_t_weight q_t_measure q_t_planned q_t_came q_t_rank t_thrown t_oldMany t_savedSet t_inputMany t_outputMany t_errorCode t_errorPosition t_top t_ahead t_round t_loudest t_textEnd t_kind t_from t_to t_value t_fault t_faultAt t_live t_now)) [0, 1, 3] (by decide +kernel) rfl
            have hFc := va_free (wc := (wd_X6_only cI cZ cB cG q_t q_t_live q_t_now q_t_keys q_t_aside q_t_old q_t_saved q_t_input q_t_output q_t_weight q_t_measure q_t_planned q_t_came q_t_rank t_thrown t_oldMany t_savedSet t_inputMany t_outputMany t_errorCode t_errorPosition t_top t_ahead t_round t_loudest t_textEnd t_kind t_from t_to t_value t_fault t_faultAt t_live t_now)) hD hS hA [0, 1, 3] rfl
            refine va_callv (va_runV (As := [.int v3, .int v5]) (rest := []) ⟨hx, hb, hml, hown, hts⟩ (c_X6_only l D X cI cZ cB cG H.size q_t q_t_live q_t_now q_t_keys q_t_aside q_t_old q_t_saved q_t_input q_t_output q_t_weight q_t_measure q_t_planned q_t_came q_t_rank v3 v5 t_thrown t_oldMany t_savedSet t_inputMany t_outputMany t_errorCode t_errorPosition t_top t_ahead t_round t_loudest t_textEnd t_kind t_from t_to t_value t_fault t_faultAt t_live t_now _ hf) (cwV 2 hts gX6_plansFor_X6_only rfl rfl rfl (by decide +kernel) ⟨Nat.le_of_ble_eq_true rfl, Nat.le_of_ble_eq_true rfl⟩) ⟨g_blind, va_recv hK hPc (ci := 6) (q0 := 0) rfl rfl, fun U hU hW => g_side hU hW hPc hK hDc hE hS hFc⟩ rfl rfl hl.1 rfl (lv_room (Nat.le_of_ble_eq_true rfl)) dX6_plansFor_76 ⟨Nat.zero_le _, Nat.zero_le _⟩) hS (fun q _ h => hFc q h) hFc (fun u t H1 locs ht hvm hw hB hz1 hk1 hS => ?_)
            obtain ⟨t_live_6, rfl⟩ : ∃ z, z = u := ⟨_, rfl⟩
            obtain ⟨hP1, hK1, hD1⟩ := hB
            rw [ht] at hP1
            obtain ⟨hP, hD⟩ := g_back (wc := (wd_X6_only cI cZ cB cG q_t q_t_live q_t_now q_t_keys q_t_aside q_t_old q_t_saved q_t_input q_t_output q_t_weight q_t_measure q_t_planned q_t_came q_t_rank t_thrown t_oldMany t_savedSet t_inputMany t_outputMany t_errorCode t_errorPosition t_top t_ahead t_round t_loudest t_textEnd t_kind t_from t_to t_value t_fault t_faultAt t_live t_now)) (w1 := (wd_X6_only cI cZ cB cG q_t q_t_live q_t_now q_t_keys q_t_aside q_t_old q_t_saved q_t_input q_t_output q_t_weight q_t_measure q_t_planned q_t_came q_t_rank t_thrown t_oldMany t_savedSet t_inputMany t_outputMany t_errorCode t_errorPosition t_top t_ahead t_round t_loudest t_textEnd t_kind t_from t_to t_value t_fault t_faultAt t_live_6 t_now)) hP hD [0, 1, 3] rfl rfl hk1 hP1
            have hP : va_P D vwCl (wd_X6_plansFor cI cZ cB cG q_t q_t_live q_t_measure q_t_now q_t_planned q_t_weight q_t_keys q_t_aside q_t_old q_t_saved q_t_input q_t_output q_t_came q_t_rank t_thrown t_oldMany t_savedSet t_inputMany t_outputMany t_errorCode t_errorPosition t_top t_ahead t_round t_loudest t_textEnd t_kind t_from t_to t_value t_fault t_faultAt t_live_6 t_measure t_now t_planned t_weight) H1 := hP
            have hD : va_D A (wd_X6_plansFor cI cZ cB cG q_t q_t_live q_t_measure q_t_now q_t_planned q_t_weight q_t_keys q_t_aside q_t_old q_t_saved q_t_input q_t_output q_t_came q_t_rank t_thrown t_oldMany t_savedSet t_inputMany t_outputMany t_errorCode t_errorPosition t_top t_ahead t_round t_loudest t_textEnd t_kind t_from t_to t_value t_fault t_faultAt t_live_6 t_measure t_now t_planned t_weight) := hD
            have hf := hw
            generalize H1 = H at hP hS ⊢
            refine lv_aload_n hx hb dX6_plansFor_79 rfl (lv_at hl 0 rfl) ?_
            have hPc := hP.sub (ws' := (wd_X6_solved cI cZ cB cG q_t q_t_live q_t_measure q_t_now q_t_weight q_t_keys q_t_aside q_t_old q_t_saved q_t_input q_t_output q_t_planned q_t_came q_t_rank t_thrown t_oldMany t_savedSet t_inputMany t_outputMany t_errorCode t_errorPosition t_top t_ahead t_round t_loudest t_textEnd t_kind t_from t_to t_value t_fault t_faultAt t_live_6 t_measure t_now t_weight)) [0, 1, 2, 3, 5] rfl
            have hDc := hD.sub (ws' := (wd_X6_solved cI cZ cB cG q_t q_t_live q_t_measure q_t_now q_t_weight q_t_keys q_t_aside q_t_old q_t_saved q_t_input q_t_output q_t_planned q_t_came q_t_rank t_thrown t_oldMany t_savedSet t_inputMany t_outputMany t_errorCode t_errorPosition t_top t_ahead t_round t_loudest t_textEnd t_kind t_from t_to t_value t_fault t_faultAt t_live_6 t_measure t_now t_weight)) [0, 1, 2, 3, 5] (by decide +kernel) rfl
            have hFc := va_free (wc := (wd_X6_solved cI cZ cB cG q_t q_t_live q_t_measure q_t_now q_t_weight q_t_keys q_t_aside q_t_old q_t_saved q_t_input q_t_output q_t_planned q_t_came q_t_rank t_thrown t_oldMany t_savedSet t_inputMany t_outputMany t_errorCode t_errorPosition t_top t_ahead t_round t_loudest t_textEnd t_kind t_from t_to t_value t_fault t_faultAt t_live_6 t_measure t_now t_weight)) hD hS hA [0, 1, 2, 3, 5] rfl
            refine va_calli (va_runV (As := []) (rest := []) ⟨hx, hb, hml, hown, hts⟩ (c_X6_solved l D X cI cZ cB cG H.size q_t q_t_live q_t_measure q_t_now q_t_weight q_t_keys q_t_aside q_t_old q_t_saved q_t_input q_t_output q_t_planned q_t_came q_t_rank t_thrown t_oldMany t_savedSet t_inputMany t_outputMany t_errorCode t_errorPosition t_top t_ahead t_round t_loudest t_textEnd t_kind t_from t_to t_value t_fault t_faultAt t_live_6 t_measure t_now t_weight _ hf) (cwV 0 hts gX6_plansFor_X6_solved rfl rfl rfl (by decide +kernel) ⟨Nat.le_of_ble_eq_true rfl, Nat.le_of_ble_eq_true rfl⟩) ⟨g_blind, va_recv hK hPc (ci := 6) (q0 := 0) rfl rfl, fun U hU hW => g_side hU hW hPc hK hDc hE hS hFc⟩ rfl rfl hl.1 rfl (lv_room (Nat.le_of_ble_eq_true rfl)) dX6_plansFor_80 ⟨Nat.zero_le _, Nat.zero_le _⟩) hS (fun q _ h => hFc q h) hFc (fun r_7 u t H1 locs ht hvm hw hB hz1 hk1 hS => ?_)
            obtain ⟨t_top_8, t_measure_9, t_weight_10⟩ := u
            obtain ⟨hP1, hK1, hD1⟩ := hB
            rw [ht] at hP1
            obtain ⟨hP, hD⟩ := g_back (wc := (wd_X6_solved cI cZ cB cG q_t q_t_live q_t_measure q_t_now q_t_weight q_t_keys q_t_aside q_t_old q_t_saved q_t_input q_t_output q_t_planned q_t_came q_t_rank t_thrown t_oldMany t_savedSet t_inputMany t_outputMany t_errorCode t_errorPosition t_top t_ahead t_round t_loudest t_textEnd t_kind t_from t_to t_value t_fault t_faultAt t_live_6 t_measure t_now t_weight)) (w1 := (wd_X6_solved cI cZ cB cG q_t q_t_live q_t_measure q_t_now q_t_weight q_t_keys q_t_aside q_t_old q_t_saved q_t_input q_t_output q_t_planned q_t_came q_t_rank t_thrown t_oldMany t_savedSet t_inputMany t_outputMany t_errorCode t_errorPosition t_top_8 t_ahead t_round t_loudest t_textEnd t_kind t_from t_to t_value t_fault t_faultAt t_live_6 t_measure_9 t_now t_weight_10)) hP hD [0, 1, 2, 3, 5] rfl rfl hk1 hP1
            have hP : va_P D vwCl (wd_X6_plansFor cI cZ cB cG q_t q_t_live q_t_measure q_t_now q_t_planned q_t_weight q_t_keys q_t_aside q_t_old q_t_saved q_t_input q_t_output q_t_came q_t_rank t_thrown t_oldMany t_savedSet t_inputMany t_outputMany t_errorCode t_errorPosition t_top_8 t_ahead t_round t_loudest t_textEnd t_kind t_from t_to t_value t_fault t_faultAt t_live_6 t_measure_9 t_now t_planned t_weight_10) H1 := hP
            have hD : va_D A (wd_X6_plansFor cI cZ cB cG q_t q_t_live q_t_measure q_t_now q_t_planned q_t_weight q_t_keys q_t_aside q_t_old q_t_saved q_t_input q_t_output q_t_came q_t_rank t_thrown t_oldMany t_savedSet t_inputMany t_outputMany t_errorCode t_errorPosition t_top_8 t_ahead t_round t_loudest t_textEnd t_kind t_from t_to t_value t_fault t_faultAt t_live_6 t_measure_9 t_now t_planned t_weight_10) := hD
            have hf := hw
            generalize H1 = H at hP hS ⊢
            refine lv_istore (lv' := [(6, .int r_7), (0, .ref q_t), (1, .int v1), (2, .int v2), (3, .int v3), (4, .int v4), (5, .int v5)]) hx hb dX6_plansFor_83 hl (by decide) rfl (fun ls hl => ?_)
            refine lv_iload_n hx hb dX6_plansFor_85 rfl (lv_at hl 2 rfl) ?_
            refine lv_if_ne (tgt := 94) hx hb dX6_plansFor_86 (by decide) (fun hc => ?_) (fun hc => ?_)
            · have hf := hf.1 hc
              refine lv_aload_n hx hb dX6_plansFor_94 rfl (lv_at hl 1 rfl) ?_
              have hPc := hP.sub (ws' := (wd_X6_all cI cZ cB cG q_t q_t_now q_t_keys q_t_aside q_t_old q_t_saved q_t_input q_t_output q_t_live q_t_weight q_t_measure q_t_planned q_t_came q_t_rank t_thrown t_oldMany t_savedSet t_inputMany t_outputMany t_errorCode t_errorPosition t_top_8 t_ahead t_round t_loudest t_textEnd t_kind t_from t_to t_value t_fault t_faultAt t_now)) [0, 3] rfl
              have hDc := hD.sub (ws' := (wd_X6_all cI cZ cB cG q_t q_t_now q_t_keys q_t_aside q_t_old q_t_saved q_t_input q_t_output q_t_live q_t_weight q_t_measure q_t_planned q_t_came q_t_rank t_thrown t_oldMany t_savedSet t_inputMany t_outputMany t_errorCode t_errorPosition t_top_8 t_ahead t_round t_loudest t_textEnd t_kind t_from t_to t_value t_fault t_faultAt t_now)) [0, 3] (by decide +kernel) rfl
              have hFc := va_free (wc := (wd_X6_all cI cZ cB cG q_t q_t_now q_t_keys q_t_aside q_t_old q_t_saved q_t_input q_t_output q_t_live q_t_weight q_t_measure q_t_planned q_t_came q_t_rank t_thrown t_oldMany t_savedSet t_inputMany t_outputMany t_errorCode t_errorPosition t_top_8 t_ahead t_round t_loudest t_textEnd t_kind t_from t_to t_value t_fault t_faultAt t_now)) hD hS hA [0, 3] rfl
              refine va_calli (va_runV (As := []) (rest := []) ⟨hx, hb, hml, hown, hts⟩ (c_X6_all l D X cI cZ cB cG H.size q_t q_t_now q_t_keys q_t_aside q_t_old q_t_saved q_t_input q_t_output q_t_live q_t_weight q_t_measure q_t_planned q_t_came q_t_rank t_thrown t_oldMany t_savedSet t_inputMany t_outputMany t_errorCode t_errorPosition t_top_8 t_ahead t_round t_loudest t_textEnd t_kind t_from t_to t_value t_fault t_faultAt t_now _ hf) (cwV 0 hts gX6_plansFor_X6_all rfl rfl rfl (by decide +kernel) ⟨Nat.le_of_ble_eq_true rfl, Nat.le_of_ble_eq_true rfl⟩) ⟨g_blind, va_recv hK hPc (ci := 6) (q0 := 0) rfl rfl, fun U hU hW => g_side hU hW hPc hK hDc hE hS hFc⟩ rfl rfl hl.1 rfl (lv_room (Nat.le_of_ble_eq_true rfl)) dX6_plansFor_95 ⟨Nat.zero_le _, Nat.zero_le _⟩) hS (fun q _ h => hFc q h) hFc (fun r_11 u t H1 locs ht hvm hw hB hz1 hk1 hS => ?_)
              obtain ⟨hP1, hK1, hD1⟩ := hB
              rw [ht] at hP1
              obtain ⟨hP, hD⟩ := g_back (wc := (wd_X6_all cI cZ cB cG q_t q_t_now q_t_keys q_t_aside q_t_old q_t_saved q_t_input q_t_output q_t_live q_t_weight q_t_measure q_t_planned q_t_came q_t_rank t_thrown t_oldMany t_savedSet t_inputMany t_outputMany t_errorCode t_errorPosition t_top_8 t_ahead t_round t_loudest t_textEnd t_kind t_from t_to t_value t_fault t_faultAt t_now)) (w1 := (wd_X6_all cI cZ cB cG q_t q_t_now q_t_keys q_t_aside q_t_old q_t_saved q_t_input q_t_output q_t_live q_t_weight q_t_measure q_t_planned q_t_came q_t_rank t_thrown t_oldMany t_savedSet t_inputMany t_outputMany t_errorCode t_errorPosition t_top_8 t_ahead t_round t_loudest t_textEnd t_kind t_from t_to t_value t_fault t_faultAt t_now)) hP hD [0, 3] rfl rfl hk1 hP1
              have hP : va_P D vwCl (wd_X6_plansFor cI cZ cB cG q_t q_t_live q_t_measure q_t_now q_t_planned q_t_weight q_t_keys q_t_aside q_t_old q_t_saved q_t_input q_t_output q_t_came q_t_rank t_thrown t_oldMany t_savedSet t_inputMany t_outputMany t_errorCode t_errorPosition t_top_8 t_ahead t_round t_loudest t_textEnd t_kind t_from t_to t_value t_fault t_faultAt t_live_6 t_measure_9 t_now t_planned t_weight_10) H1 := hP
              have hD : va_D A (wd_X6_plansFor cI cZ cB cG q_t q_t_live q_t_measure q_t_now q_t_planned q_t_weight q_t_keys q_t_aside q_t_old q_t_saved q_t_input q_t_output q_t_came q_t_rank t_thrown t_oldMany t_savedSet t_inputMany t_outputMany t_errorCode t_errorPosition t_top_8 t_ahead t_round t_loudest t_textEnd t_kind t_from t_to t_value t_fault t_faultAt t_live_6 t_measure_9 t_now t_planned t_weight_10) := hD
              have hf := hw
              generalize H1 = H at hP hS ⊢
              refine lv_iload hx hb dX6_plansFor_98 (lv_at hl 0 rfl) ?_
              refine lv_iconst (v := (-1 : Int32)) hx hb dX6_plansFor_100 (by decide) ?_
              refine lv_ixor hx hb dX6_plansFor_101 ?_
              refine lv_iand hx hb dX6_plansFor_102 ?_
              refine lv_istore (lv' := [(7, .int ((r_11 &&& (r_7 ^^^ (-1 : Int32))))), (6, .int r_7), (0, .ref q_t), (1, .int v1), (2, .int v2), (3, .int v3), (4, .int v4), (5, .int v5)]) hx hb dX6_plansFor_103 hl (by decide) rfl (fun ls hl => ?_)
              refine lv_iload_n hx hb dX6_plansFor_105 rfl (lv_at hl 4 rfl) ?_
              refine lv_iload hx hb dX6_plansFor_106 (lv_at hl 0 rfl) ?_
              refine lv_iconst (v := (-1 : Int32)) hx hb dX6_plansFor_108 (by decide) ?_
              refine lv_ixor hx hb dX6_plansFor_109 ?_
              refine lv_iand hx hb dX6_plansFor_110 ?_
              refine lv_if_ne (tgt := 118) hx hb dX6_plansFor_111 (by decide) (fun hc => ?_) (fun hc => ?_)
              · have hf := hf.1 hc
                refine lv_iconst (v := (0 : Int32)) hx hb dX6_plansFor_118 (by decide) ?_
                refine lv_istore (lv' := [(4, .int (0 : Int32)), (7, .int ((r_11 &&& (r_7 ^^^ (-1 : Int32))))), (6, .int r_7), (0, .ref q_t), (1, .int v1), (2, .int v2), (3, .int v3), (5, .int v5)]) hx hb dX6_plansFor_119 hl (by decide) rfl (fun ls hl => ?_)
                refine lv_aload_n hx hb dX6_plansFor_121 rfl (lv_at hl 3 rfl) ?_
                refine va_get (D := D) (ci := 6) (v := .ref q_t_planned) (C := RX6) (T := TX6) (N := 31) hx hb hts hinX6 hown hK hP 0 rfl rfl 18 (by decide) k45 (fun _ h9 => h9) rfl dX6_plansFor_122 ?_
                refine lv_iload_n hx hb dX6_plansFor_125 rfl (lv_at hl 6 rfl) ?_
                refine lv_iload hx hb dX6_plansFor_126 (lv_at hl 7 rfl) ?_
                refine va_iast hx hb hK hP hD hS 4 0 rfl rfl (n := 20) hf.1 dX6_plansFor_128 (fun H locs hP hD hS => ?_)
                have hf := hf.2
                have hP : va_P D vwCl (wd_X6_plansFor cI cZ cB cG q_t q_t_live q_t_measure q_t_now q_t_planned q_t_weight q_t_keys q_t_aside q_t_old q_t_saved q_t_input q_t_output q_t_came q_t_rank t_thrown t_oldMany t_savedSet t_inputMany t_outputMany t_errorCode t_errorPosition t_top_8 t_ahead t_round t_loudest t_textEnd t_kind t_from t_to t_value t_fault t_faultAt t_live_6 t_measure_9 t_now (upd t_planned v3.toNatClampNeg v5) t_weight_10) H := hP
                have hD : va_D A (wd_X6_plansFor cI cZ cB cG q_t q_t_live q_t_measure q_t_now q_t_planned q_t_weight q_t_keys q_t_aside q_t_old q_t_saved q_t_input q_t_output q_t_came q_t_rank t_thrown t_oldMany t_savedSet t_inputMany t_outputMany t_errorCode t_errorPosition t_top_8 t_ahead t_round t_loudest t_textEnd t_kind t_from t_to t_value t_fault t_faultAt t_live_6 t_measure_9 t_now (upd t_planned v3.toNatClampNeg v5) t_weight_10) := hD
                refine lv_iinc (v := (v5 + (1 : Int32))) (lv' := [(5, .int ((v5 + (1 : Int32)))), (4, .int (0 : Int32)), (7, .int ((r_11 &&& (r_7 ^^^ (-1 : Int32))))), (6, .int r_7), (0, .ref q_t), (1, .int v1), (2, .int v2), (3, .int v3)]) hx hb dX6_plansFor_129 hl (k := 7) rfl rfl (by decide) rfl (fun ls hl => ?_)
                refine lv_goto (tgt := 42) hx hb dX6_plansFor_132 (by decide) ?_
                exact ih _ _ _ _ _ _ _ _ _ _ hf hP hD hS (lv_sub hl [4, 5, 6, 7, 1, 0] rfl)
              · have hf := hf.2 hc
                refine lv_iconst (v := (1 : Int32)) hx hb dX6_plansFor_114 (by decide) ?_
                refine lv_goto (tgt := 119) hx hb dX6_plansFor_115 (by decide) ?_
                refine lv_istore (lv' := [(4, .int (1 : Int32)), (7, .int ((r_11 &&& (r_7 ^^^ (-1 : Int32))))), (6, .int r_7), (0, .ref q_t), (1, .int v1), (2, .int v2), (3, .int v3), (5, .int v5)]) hx hb dX6_plansFor_119 hl (by decide) rfl (fun ls hl => ?_)
                refine lv_aload_n hx hb dX6_plansFor_121 rfl (lv_at hl 3 rfl) ?_
                refine va_get (D := D) (ci := 6) (v := .ref q_t_planned) (C := RX6) (T := TX6) (N := 31) hx hb hts hinX6 hown hK hP 0 rfl rfl 18 (by decide) k45 (fun _ h9 => h9) rfl dX6_plansFor_122 ?_
                refine lv_iload_n hx hb dX6_plansFor_125 rfl (lv_at hl 6 rfl) ?_
                refine lv_iload hx hb dX6_plansFor_126 (lv_at hl 7 rfl) ?_
                refine va_iast hx hb hK hP hD hS 4 0 rfl rfl (n := 20) hf.1 dX6_plansFor_128 (fun H locs hP hD hS => ?_)
                have hf := hf.2
                have hP : va_P D vwCl (wd_X6_plansFor cI cZ cB cG q_t q_t_live q_t_measure q_t_now q_t_planned q_t_weight q_t_keys q_t_aside q_t_old q_t_saved q_t_input q_t_output q_t_came q_t_rank t_thrown t_oldMany t_savedSet t_inputMany t_outputMany t_errorCode t_errorPosition t_top_8 t_ahead t_round t_loudest t_textEnd t_kind t_from t_to t_value t_fault t_faultAt t_live_6 t_measure_9 t_now (upd t_planned v3.toNatClampNeg v5) t_weight_10) H := hP
                have hD : va_D A (wd_X6_plansFor cI cZ cB cG q_t q_t_live q_t_measure q_t_now q_t_planned q_t_weight q_t_keys q_t_aside q_t_old q_t_saved q_t_input q_t_output q_t_came q_t_rank t_thrown t_oldMany t_savedSet t_inputMany t_outputMany t_errorCode t_errorPosition t_top_8 t_ahead t_round t_loudest t_textEnd t_kind t_from t_to t_value t_fault t_faultAt t_live_6 t_measure_9 t_now (upd t_planned v3.toNatClampNeg v5) t_weight_10) := hD
                refine lv_iinc (v := (v5 + (1 : Int32))) (lv' := [(5, .int ((v5 + (1 : Int32)))), (4, .int (1 : Int32)), (7, .int ((r_11 &&& (r_7 ^^^ (-1 : Int32))))), (6, .int r_7), (0, .ref q_t), (1, .int v1), (2, .int v2), (3, .int v3)]) hx hb dX6_plansFor_129 hl (k := 7) rfl rfl (by decide) rfl (fun ls hl => ?_)
                refine lv_goto (tgt := 42) hx hb dX6_plansFor_132 (by decide) ?_
                exact ih _ _ _ _ _ _ _ _ _ _ hf hP hD hS (lv_sub hl [4, 5, 6, 7, 1, 0] rfl)
            · have hf := hf.2 hc
              refine lv_iload hx hb dX6_plansFor_89 (lv_at hl 0 rfl) ?_
              refine lv_goto (tgt := 103) hx hb dX6_plansFor_91 (by decide) ?_
              refine lv_istore (lv' := [(7, .int r_7), (6, .int r_7), (0, .ref q_t), (1, .int v1), (2, .int v2), (3, .int v3), (4, .int v4), (5, .int v5)]) hx hb dX6_plansFor_103 hl (by decide) rfl (fun ls hl => ?_)
              refine lv_iload_n hx hb dX6_plansFor_105 rfl (lv_at hl 4 rfl) ?_
              refine lv_iload hx hb dX6_plansFor_106 (lv_at hl 0 rfl) ?_
              refine lv_iconst (v := (-1 : Int32)) hx hb dX6_plansFor_108 (by decide) ?_
              refine lv_ixor hx hb dX6_plansFor_109 ?_
              refine lv_iand hx hb dX6_plansFor_110 ?_
              refine lv_if_ne (tgt := 118) hx hb dX6_plansFor_111 (by decide) (fun hc => ?_) (fun hc => ?_)
              · have hf := hf.1 hc
                refine lv_iconst (v := (0 : Int32)) hx hb dX6_plansFor_118 (by decide) ?_
                refine lv_istore (lv' := [(4, .int (0 : Int32)), (7, .int r_7), (6, .int r_7), (0, .ref q_t), (1, .int v1), (2, .int v2), (3, .int v3), (5, .int v5)]) hx hb dX6_plansFor_119 hl (by decide) rfl (fun ls hl => ?_)
                refine lv_aload_n hx hb dX6_plansFor_121 rfl (lv_at hl 3 rfl) ?_
                refine va_get (D := D) (ci := 6) (v := .ref q_t_planned) (C := RX6) (T := TX6) (N := 31) hx hb hts hinX6 hown hK hP 0 rfl rfl 18 (by decide) k45 (fun _ h9 => h9) rfl dX6_plansFor_122 ?_
                refine lv_iload_n hx hb dX6_plansFor_125 rfl (lv_at hl 6 rfl) ?_
                refine lv_iload hx hb dX6_plansFor_126 (lv_at hl 7 rfl) ?_
                refine va_iast hx hb hK hP hD hS 4 0 rfl rfl (n := 20) hf.1 dX6_plansFor_128 (fun H locs hP hD hS => ?_)
                have hf := hf.2
                have hP : va_P D vwCl (wd_X6_plansFor cI cZ cB cG q_t q_t_live q_t_measure q_t_now q_t_planned q_t_weight q_t_keys q_t_aside q_t_old q_t_saved q_t_input q_t_output q_t_came q_t_rank t_thrown t_oldMany t_savedSet t_inputMany t_outputMany t_errorCode t_errorPosition t_top_8 t_ahead t_round t_loudest t_textEnd t_kind t_from t_to t_value t_fault t_faultAt t_live_6 t_measure_9 t_now (upd t_planned v3.toNatClampNeg v5) t_weight_10) H := hP
                have hD : va_D A (wd_X6_plansFor cI cZ cB cG q_t q_t_live q_t_measure q_t_now q_t_planned q_t_weight q_t_keys q_t_aside q_t_old q_t_saved q_t_input q_t_output q_t_came q_t_rank t_thrown t_oldMany t_savedSet t_inputMany t_outputMany t_errorCode t_errorPosition t_top_8 t_ahead t_round t_loudest t_textEnd t_kind t_from t_to t_value t_fault t_faultAt t_live_6 t_measure_9 t_now (upd t_planned v3.toNatClampNeg v5) t_weight_10) := hD
                refine lv_iinc (v := (v5 + (1 : Int32))) (lv' := [(5, .int ((v5 + (1 : Int32)))), (4, .int (0 : Int32)), (7, .int r_7), (6, .int r_7), (0, .ref q_t), (1, .int v1), (2, .int v2), (3, .int v3)]) hx hb dX6_plansFor_129 hl (k := 7) rfl rfl (by decide) rfl (fun ls hl => ?_)
                refine lv_goto (tgt := 42) hx hb dX6_plansFor_132 (by decide) ?_
                exact ih _ _ _ _ _ _ _ _ _ _ hf hP hD hS (lv_sub hl [4, 5, 6, 7, 1, 0] rfl)
              · have hf := hf.2 hc
                refine lv_iconst (v := (1 : Int32)) hx hb dX6_plansFor_114 (by decide) ?_
                refine lv_goto (tgt := 119) hx hb dX6_plansFor_115 (by decide) ?_
                refine lv_istore (lv' := [(4, .int (1 : Int32)), (7, .int r_7), (6, .int r_7), (0, .ref q_t), (1, .int v1), (2, .int v2), (3, .int v3), (5, .int v5)]) hx hb dX6_plansFor_119 hl (by decide) rfl (fun ls hl => ?_)
                refine lv_aload_n hx hb dX6_plansFor_121 rfl (lv_at hl 3 rfl) ?_
                refine va_get (D := D) (ci := 6) (v := .ref q_t_planned) (C := RX6) (T := TX6) (N := 31) hx hb hts hinX6 hown hK hP 0 rfl rfl 18 (by decide) k45 (fun _ h9 => h9) rfl dX6_plansFor_122 ?_
                refine lv_iload_n hx hb dX6_plansFor_125 rfl (lv_at hl 6 rfl) ?_
                refine lv_iload hx hb dX6_plansFor_126 (lv_at hl 7 rfl) ?_
                refine va_iast hx hb hK hP hD hS 4 0 rfl rfl (n := 20) hf.1 dX6_plansFor_128 (fun H locs hP hD hS => ?_)
                have hf := hf.2
                have hP : va_P D vwCl (wd_X6_plansFor cI cZ cB cG q_t q_t_live q_t_measure q_t_now q_t_planned q_t_weight q_t_keys q_t_aside q_t_old q_t_saved q_t_input q_t_output q_t_came q_t_rank t_thrown t_oldMany t_savedSet t_inputMany t_outputMany t_errorCode t_errorPosition t_top_8 t_ahead t_round t_loudest t_textEnd t_kind t_from t_to t_value t_fault t_faultAt t_live_6 t_measure_9 t_now (upd t_planned v3.toNatClampNeg v5) t_weight_10) H := hP
                have hD : va_D A (wd_X6_plansFor cI cZ cB cG q_t q_t_live q_t_measure q_t_now q_t_planned q_t_weight q_t_keys q_t_aside q_t_old q_t_saved q_t_input q_t_output q_t_came q_t_rank t_thrown t_oldMany t_savedSet t_inputMany t_outputMany t_errorCode t_errorPosition t_top_8 t_ahead t_round t_loudest t_textEnd t_kind t_from t_to t_value t_fault t_faultAt t_live_6 t_measure_9 t_now (upd t_planned v3.toNatClampNeg v5) t_weight_10) := hD
                refine lv_iinc (v := (v5 + (1 : Int32))) (lv' := [(5, .int ((v5 + (1 : Int32)))), (4, .int (1 : Int32)), (7, .int r_7), (6, .int r_7), (0, .ref q_t), (1, .int v1), (2, .int v2), (3, .int v3)]) hx hb dX6_plansFor_129 hl (k := 7) rfl rfl (by decide) rfl (fun ls hl => ?_)
                refine lv_goto (tgt := 42) hx hb dX6_plansFor_132 (by decide) ?_
                exact ih _ _ _ _ _ _ _ _ _ _ hf hP hD hS (lv_sub hl [4, 5, 6, 7, 1, 0] rfl)
  have L6 : ∀ (v1 : Int32) (v2 : Int32) (K0 : Int32 → Int32 → (Nat → Int32) → (Nat → Int32) → (Nat → Int32) → (Nat → Int32) → Prop) (_ : ∀ (v3 : Int32) (t_top : Int32) (t_live : (Nat → Int32)) (t_measure : (Nat → Int32)) (t_planned : (Nat → Int32)) (t_weight : (Nat → Int32)) (H : Heap) (locs : List Loc) (ls : Array Slot), K0 v3 t_top t_live t_measure t_planned t_weight → va_P D vwCl (wd_X6_plansFor cI cZ cB cG q_t q_t_live q_t_measure q_t_now q_t_planned q_t_weight q_t_keys q_t_aside q_t_old q_t_saved q_t_input q_t_output q_t_came q_t_rank t_thrown t_oldMany t_savedSet t_inputMany t_outputMany t_errorCode t_errorPosition t_top t_ahead t_round t_loudest t_textEnd t_kind t_from t_to t_value t_fault t_faultAt t_live t_measure t_now t_planned t_weight) H → va_D A (wd_X6_plansFor cI cZ cB cG q_t q_t_live q_t_measure q_t_now q_t_planned q_t_weight q_t_keys q_t_aside q_t_old q_t_saved q_t_input q_t_output q_t_came q_t_rank t_thrown t_oldMany t_savedSet t_inputMany t_outputMany t_errorCode t_errorPosition t_top t_ahead t_round t_loudest t_textEnd t_kind t_from t_to t_value t_fault t_faultAt t_live t_measure t_now t_planned t_weight) → va_S A s.heap H locs → lv_has ls 8 [] → W p l e (rm_X6_plansFor) s m args below meth c H locs 0 0 Q (F0 m 141 ls []))  (n : Nat) (v3 : Int32) (t_top : Int32) (t_live : (Nat → Int32)) (t_measure : (Nat → Int32)) (t_planned : (Nat → Int32)) (t_weight : (Nat → Int32)) (H : Heap) (locs : List Loc) (ls : Array Slot), fx6 (F_X6_plansFor_6 v1 v2 t_now K0) n v3 t_top t_live t_measure t_planned t_weight → va_P D vwCl (wd_X6_plansFor cI cZ cB cG q_t q_t_live q_t_measure q_t_now q_t_planned q_t_weight q_t_keys q_t_aside q_t_old q_t_saved q_t_input q_t_output q_t_came q_t_rank t_thrown t_oldMany t_savedSet t_inputMany t_outputMany t_errorCode t_errorPosition t_top t_ahead t_round t_loudest t_textEnd t_kind t_from t_to t_value t_fault t_faultAt t_live t_measure t_now t_planned t_weight) H → va_D A (wd_X6_plansFor cI cZ cB cG q_t q_t_live q_t_measure q_t_now q_t_planned q_t_weight q_t_keys q_t_aside q_t_old q_t_saved q_t_input q_t_output q_t_came q_t_rank t_thrown t_oldMany t_savedSet t_inputMany t_outputMany t_errorCode t_errorPosition t_top t_ahead t_round t_loudest t_textEnd t_kind t_from t_to t_value t_fault t_faultAt t_live t_measure t_now t_planned t_weight) → va_S A s.heap H locs → lv_has ls 8 [(0, .ref q_t), (1, .int v1), (2, .int v2), (3, .int v3)] → W p l e (rm_X6_plansFor) s m args below meth c H locs 0 0 Q (F0 m 6 ls []) := by
    intro v1 v2 K0 hK0 n
    induction n with
    | zero => intro v3 t_top t_live t_measure t_planned t_weight H locs ls hf; exact (hf : False).elim
    | succ n ih =>
      intro v3 t_top t_live t_measure t_planned t_weight H locs ls hf hP hD hS hl
      have hf : F_X6_plansFor_6 v1 v2 t_now K0 (fx6 (F_X6_plansFor_6 v1 v2 t_now K0) n) v3 t_top t_live t_measure t_planned t_weight := hf
      unfold F_X6_plansFor_6 at hf
      refine lv_iload_n hx hb dX6_plansFor_6 rfl (lv_at hl 3 rfl) ?_
      refine lv_aload_n hx hb dX6_plansFor_7 rfl (lv_at hl 0 rfl) ?_
      refine va_get (D := D) (ci := 6) (v := .ref q_t_now) (C := RX6) (T := TX6) (N := 31) hx hb hts hinX6 hown hK hP 0 rfl rfl 2 (by decide) k13 (fun _ h9 => h9) rfl dX6_plansFor_8 ?_
      refine lv_iconst (v := (0 : Int32)) hx hb dX6_plansFor_11 (by decide) ?_
      refine va_iald hx hb hK hP 3 0 rfl rfl (n := 176) (by unfold vp_in; decide) dX6_plansFor_12 ?_
      refine lv_icmp_ge (tgt := 141) hx hb dX6_plansFor_13 (by decide) (fun hc => ?_) (fun hc => ?_)
      · have hf := hf.1 hc
        exact hK0 _ _ _ _ _ _ _ _ _ hf hP hD hS (lv_sub hl [] rfl)
      · have hf := hf.2 hc
        refine lv_aload_n hx hb dX6_plansFor_16 rfl (lv_at hl 0 rfl) ?_
        refine va_get (D := D) (ci := 6) (v := .ref q_t_now) (C := RX6) (T := TX6) (N := 31) hx hb hts hinX6 hown hK hP 0 rfl rfl 2 (by decide) k13 (fun _ h9 => h9) rfl dX6_plansFor_17 ?_
        refine lv_iconst (v := (4 : Int32)) hx hb dX6_plansFor_20 (by decide) ?_
        refine lv_iload_n hx hb dX6_plansFor_21 rfl (lv_at hl 3 rfl) ?_
        refine lv_iadd hx hb dX6_plansFor_22 ?_
        refine va_iald hx hb hK hP 3 0 rfl rfl (n := 176) hf.1 dX6_plansFor_23 ?_
        have hf := hf.2
        refine lv_iload_n hx hb dX6_plansFor_24 rfl (lv_at hl 1 rfl) ?_
        refine lv_icmp_ne (tgt := 135) hx hb dX6_plansFor_25 (by decide) (fun hc => ?_) (fun hc => ?_)
        · have hf := hf.1 hc
          refine lv_iinc (v := (v3 + (1 : Int32))) (lv' := [(3, .int ((v3 + (1 : Int32)))), (0, .ref q_t), (1, .int v1), (2, .int v2)]) hx hb dX6_plansFor_135 hl (k := 3) rfl rfl (by decide) rfl (fun ls hl => ?_)
          refine lv_goto (tgt := 6) hx hb dX6_plansFor_138 (by decide) ?_
          exact ih _ _ _ _ _ _ _ _ _ hf hP hD hS (lv_sub hl [1, 2, 3, 0] rfl)
        · have hf := hf.2 hc
          refine lv_iload_n hx hb dX6_plansFor_28 rfl (lv_at hl 2 rfl) ?_
          refine lv_iload_n hx hb dX6_plansFor_29 rfl (lv_at hl 3 rfl) ?_
          have hPc := hP.sub (ws' := ([] : va_W)) [] rfl
          have hDc := hD.sub (ws' := ([] : va_W)) [] (by decide +kernel) rfl
          have hFc := va_free (wc := ([] : va_W)) hD hS hA [] rfl
          refine va_calli (va_runS (As := [.int v2, .int v3]) (rest := []) ⟨hx, hb, hml, hown, hts⟩ (c_X6_has l D X cI cZ cB cG H.size v2 v3 _ hf) (va_cwS 2 hts gX6_plansFor_X6_has rfl rfl rfl (by decide +kernel) ⟨Nat.le_of_ble_eq_true rfl, Nat.le_of_ble_eq_true rfl⟩) ⟨g_blind, fun U hU hW => g_side hU hW hPc hK hDc hE hS hFc⟩ rfl rfl hl.1 rfl (lv_room (Nat.le_of_ble_eq_true rfl)) dX6_plansFor_30 ⟨Nat.zero_le _, Nat.zero_le _⟩) hS (fun q _ h => hFc q h) hFc (fun r_5 u t H1 locs ht hvm hw hB hz1 hk1 hS => ?_)
          obtain ⟨hP1, hK1, hD1⟩ := hB
          rw [ht] at hP1
          obtain ⟨hP, hD⟩ := g_back (wc := ([] : va_W)) (w1 := ([] : va_W)) hP hD [] rfl rfl hk1 hP1
          have hP : va_P D vwCl (wd_X6_plansFor cI cZ cB cG q_t q_t_live q_t_measure q_t_now q_t_planned q_t_weight q_t_keys q_t_aside q_t_old q_t_saved q_t_input q_t_output q_t_came q_t_rank t_thrown t_oldMany t_savedSet t_inputMany t_outputMany t_errorCode t_errorPosition t_top t_ahead t_round t_loudest t_textEnd t_kind t_from t_to t_value t_fault t_faultAt t_live t_measure t_now t_planned t_weight) H1 := hP
          have hD : va_D A (wd_X6_plansFor cI cZ cB cG q_t q_t_live q_t_measure q_t_now q_t_planned q_t_weight q_t_keys q_t_aside q_t_old q_t_saved q_t_input q_t_output q_t_came q_t_rank t_thrown t_oldMany t_savedSet t_inputMany t_outputMany t_errorCode t_errorPosition t_top t_ahead t_round t_loudest t_textEnd t_kind t_from t_to t_value t_fault t_faultAt t_live t_measure t_now t_planned t_weight) := hD
          obtain ⟨hn_r_5, hw⟩ := hw
          have hf := hw
          generalize H1 = H at hP hS ⊢
          refine lv_if_eq (tgt := 135) hx hb dX6_plansFor_33 (by decide) (fun hc => ?_) (fun hc => ?_)
          · have hf := hf.1 hc
            refine lv_iinc (v := (v3 + (1 : Int32))) (lv' := [(3, .int ((v3 + (1 : Int32)))), (0, .ref q_t), (1, .int v1), (2, .int v2)]) hx hb dX6_plansFor_135 hl (k := 3) rfl rfl (by decide) rfl (fun ls hl => ?_)
            refine lv_goto (tgt := 6) hx hb dX6_plansFor_138 (by decide) ?_
            exact ih _ _ _ _ _ _ _ _ _ hf hP hD hS (lv_sub hl [1, 2, 3, 0] rfl)
          · have hf := hf.2 hc
            refine lv_iconst (v := (0 : Int32)) hx hb dX6_plansFor_36 (by decide) ?_
            refine lv_istore (lv' := [(4, .int (0 : Int32)), (0, .ref q_t), (1, .int v1), (2, .int v2), (3, .int v3)]) hx hb dX6_plansFor_37 hl (by decide) rfl (fun ls hl => ?_)
            refine lv_iconst (v := (0 : Int32)) hx hb dX6_plansFor_39 (by decide) ?_
            refine lv_istore (lv' := [(5, .int (0 : Int32)), (4, .int (0 : Int32)), (0, .ref q_t), (1, .int v1), (2, .int v2), (3, .int v3)]) hx hb dX6_plansFor_40 hl (by decide) rfl (fun ls hl => ?_)
            obtain ⟨n, hf⟩ := hf
            refine L42 v1 v2 v3 _ ?_  n _ _ _ _ _ _ _ _ _ _ hf hP hD hS (lv_sub hl [2, 3, 4, 5, 1, 0] rfl)
            intro v4_12 v5_13 t_top_14 t_live_15 t_measure_16 t_planned_17 t_weight_18 H locs ls hf hP hD hS hl
            refine lv_iinc (v := (v3 + (1 : Int32))) (lv' := [(3, .int ((v3 + (1 : Int32)))), (0, .ref q_t), (1, .int v1), (2, .int v2)]) hx hb dX6_plansFor_135 hl (k := 3) rfl rfl (by decide) rfl (fun ls hl => ?_)
            refine lv_goto (tgt := 6) hx hb dX6_plansFor_138 (by decide) ?_
            exact ih _ _ _ _ _ _ _ _ _ hf hP hD hS (lv_sub hl [1, 2, 3, 0] rfl)
  unfold wp_X6_plansFor at hf
  refine lv_aload_n hx hb dX6_plansFor_0 rfl (lv_at hl 0 rfl) ?_
  have hPc := hP.sub (ws' := (wd_X6_looksAtAll cI cZ cB cG q_t q_t_live q_t_now q_t_keys q_t_aside q_t_old q_t_saved q_t_input q_t_output q_t_weight q_t_measure q_t_planned q_t_came q_t_rank t_thrown t_oldMany t_savedSet t_inputMany t_outputMany t_errorCode t_errorPosition t_top t_ahead t_round t_loudest t_textEnd t_kind t_from t_to t_value t_fault t_faultAt t_live t_now)) [0, 1, 3] rfl
  have hDc := hD.sub (ws' := (wd_X6_looksAtAll cI cZ cB cG q_t q_t_live q_t_now q_t_keys q_t_aside q_t_old q_t_saved q_t_input q_t_output q_t_weight q_t_measure q_t_planned q_t_came q_t_rank t_thrown t_oldMany t_savedSet t_inputMany t_outputMany t_errorCode t_errorPosition t_top t_ahead t_round t_loudest t_textEnd t_kind t_from t_to t_value t_fault t_faultAt t_live t_now)) [0, 1, 3] (by decide +kernel) rfl
  have hFc := va_free (wc := (wd_X6_looksAtAll cI cZ cB cG q_t q_t_live q_t_now q_t_keys q_t_aside q_t_old q_t_saved q_t_input q_t_output q_t_weight q_t_measure q_t_planned q_t_came q_t_rank t_thrown t_oldMany t_savedSet t_inputMany t_outputMany t_errorCode t_errorPosition t_top t_ahead t_round t_loudest t_textEnd t_kind t_from t_to t_value t_fault t_faultAt t_live t_now)) hD hS hA [0, 1, 3] rfl
  refine va_callv (va_runV (As := []) (rest := []) ⟨hx, hb, hml, hown, hts⟩ (c_X6_looksAtAll l D X cI cZ cB cG H.size q_t q_t_live q_t_now q_t_keys q_t_aside q_t_old q_t_saved q_t_input q_t_output q_t_weight q_t_measure q_t_planned q_t_came q_t_rank t_thrown t_oldMany t_savedSet t_inputMany t_outputMany t_errorCode t_errorPosition t_top t_ahead t_round t_loudest t_textEnd t_kind t_from t_to t_value t_fault t_faultAt t_live t_now _ hf) (cwV 0 hts gX6_plansFor_X6_looksAtAll rfl rfl rfl (by decide +kernel) ⟨Nat.le_of_ble_eq_true rfl, Nat.le_of_ble_eq_true rfl⟩) ⟨g_blind, va_recv hK hPc (ci := 6) (q0 := 0) rfl rfl, fun U hU hW => g_side hU hW hPc hK hDc hE hS hFc⟩ rfl rfl hl.1 rfl (lv_room (Nat.le_of_ble_eq_true rfl)) dX6_plansFor_1 ⟨Nat.zero_le _, Nat.zero_le _⟩) hS (fun q _ h => hFc q h) hFc (fun u t H1 locs ht hvm hw hB hz1 hk1 hS => ?_)
  obtain ⟨t_live_4, rfl⟩ : ∃ z, z = u := ⟨_, rfl⟩
  obtain ⟨hP1, hK1, hD1⟩ := hB
  rw [ht] at hP1
  obtain ⟨hP, hD⟩ := g_back (wc := (wd_X6_looksAtAll cI cZ cB cG q_t q_t_live q_t_now q_t_keys q_t_aside q_t_old q_t_saved q_t_input q_t_output q_t_weight q_t_measure q_t_planned q_t_came q_t_rank t_thrown t_oldMany t_savedSet t_inputMany t_outputMany t_errorCode t_errorPosition t_top t_ahead t_round t_loudest t_textEnd t_kind t_from t_to t_value t_fault t_faultAt t_live t_now)) (w1 := (wd_X6_looksAtAll cI cZ cB cG q_t q_t_live q_t_now q_t_keys q_t_aside q_t_old q_t_saved q_t_input q_t_output q_t_weight q_t_measure q_t_planned q_t_came q_t_rank t_thrown t_oldMany t_savedSet t_inputMany t_outputMany t_errorCode t_errorPosition t_top t_ahead t_round t_loudest t_textEnd t_kind t_from t_to t_value t_fault t_faultAt t_live_4 t_now)) hP hD [0, 1, 3] rfl rfl hk1 hP1
  have hP : va_P D vwCl (wd_X6_plansFor cI cZ cB cG q_t q_t_live q_t_measure q_t_now q_t_planned q_t_weight q_t_keys q_t_aside q_t_old q_t_saved q_t_input q_t_output q_t_came q_t_rank t_thrown t_oldMany t_savedSet t_inputMany t_outputMany t_errorCode t_errorPosition t_top t_ahead t_round t_loudest t_textEnd t_kind t_from t_to t_value t_fault t_faultAt t_live_4 t_measure t_now t_planned t_weight) H1 := hP
  have hD : va_D A (wd_X6_plansFor cI cZ cB cG q_t q_t_live q_t_measure q_t_now q_t_planned q_t_weight q_t_keys q_t_aside q_t_old q_t_saved q_t_input q_t_output q_t_came q_t_rank t_thrown t_oldMany t_savedSet t_inputMany t_outputMany t_errorCode t_errorPosition t_top t_ahead t_round t_loudest t_textEnd t_kind t_from t_to t_value t_fault t_faultAt t_live_4 t_measure t_now t_planned t_weight) := hD
  have hf := hw
  generalize H1 = H at hP hS ⊢
  refine lv_iconst (v := (0 : Int32)) hx hb dX6_plansFor_4 (by decide) ?_
  refine lv_istore_n (lv' := [(3, .int (0 : Int32)), (0, .ref q_t), (1, .int a1), (2, .int a2)]) hx hb dX6_plansFor_5 rfl hl (by decide) rfl (fun ls hl => ?_)
  obtain ⟨n, hf⟩ := hf
  refine L6 a1 a2 _ ?_  n _ _ _ _ _ _ _ _ _ hf hP hD hS (lv_sub hl [1, 2, 3, 0] rfl)
  intro v3_19 t_top_20 t_live_21 t_measure_22 t_planned_23 t_weight_24 H locs ls hf hP hD hS hl
  exact hret (t_top_20, t_live_21, t_measure_22, t_planned_23, t_weight_24) hf hP hD hS dX6_plansFor_141
abbrev wd_X6_plans (cI cZ cB cG : ClassId) (q_t : Nat) (q_t_live : Nat) (q_t_measure : Nat) (q_t_now : Nat) (q_t_planned : Nat) (q_t_weight : Nat) (q_t_keys : Nat) (q_t_aside : Nat) (q_t_old : Nat) (q_t_saved : Nat) (q_t_input : Nat) (q_t_output : Nat) (q_t_came : Nat) (q_t_rank : Nat) (t_thrown : Int32) (t_oldMany : Int32) (t_savedSet : Int32) (t_inputMany : Int32) (t_outputMany : Int32) (t_errorCode : Int32) (t_errorPosition : Int32) (t_top : Int32) (t_ahead : Int32) (t_round : Int32) (t_loudest : Int32) (t_textEnd : Int32) (t_kind : Int32) (t_from : Int32) (t_to : Int32) (t_value : Int32) (t_fault : Int32) (t_faultAt : Int32) (t_live : (Nat → Int32)) (t_measure : (Nat → Int32)) (t_now : (Nat → Int32)) (t_planned : (Nat → Int32)) (t_weight : (Nat → Int32)) : va_W := [(q_t, .inr (6, [.ref q_t_keys, .int t_thrown, .ref q_t_now, .ref q_t_aside, .ref q_t_old, .int t_oldMany, .ref q_t_saved, .int t_savedSet, .ref q_t_input, .int t_inputMany, .ref q_t_output, .int t_outputMany, .int t_errorCode, .int t_errorPosition, .ref q_t_live, .ref q_t_weight, .ref q_t_measure, .int t_top, .ref q_t_planned, .ref q_t_came, .ref q_t_rank, .int t_ahead, .int t_round, .int t_loudest, .int t_textEnd, .int t_kind, .int t_from, .int t_to, .int t_value, .int t_fault, .int t_faultAt])), (q_t_live, .inl (cI, 61, .inl t_live)), (q_t_measure, .inl (cI, 20, .inl t_measure)), (q_t_now, .inl (cI, 176, .inl t_now)), (q_t_planned, .inl (cI, 20, .inl t_planned)), (q_t_weight, .inl (cI, 12, .inl t_weight))]
def F_X6_plans_7 (t_now : (Nat → Int32)) (K0 : Int32 → (Nat → Int32) → Prop) (rec : Int32 → (Nat → Int32) → Prop) (v2 : Int32) (t_planned : (Nat → Int32)) : Prop := (((t_now 0) ≤ v2 → (K0 v2 t_planned)) ∧ (¬ ((t_now 0) ≤ v2) → (wp_X6_firstMove v2 t_now (fun r_9 => (vp_in v2 20 ∧ (rec ((v2 + (1 : Int32))) (upd t_planned v2.toNatClampNeg r_9)))))))
def wp_X6_plans (t_live : (Nat → Int32)) (t_measure : (Nat → Int32)) (t_now : (Nat → Int32)) (t_planned : (Nat → Int32)) (t_weight : (Nat → Int32)) (post : Int32 → (Nat → Int32) → (Nat → Int32) → (Nat → Int32) → (Nat → Int32) → Prop) : Prop := (wp_X6_wonByEven t_live t_measure t_now t_weight (fun r_4 t_top_5 t_live_6 t_measure_7 t_weight_8 => (∃ n, fx2 (F_X6_plans_7 t_now (fun v2_10 t_planned_11 => (wp_X6_plansFor (0 : Int32) r_4 t_top_5 t_live_6 t_measure_7 t_now t_planned_11 t_weight_8 (fun t_top_12 t_live_13 t_measure_14 t_planned_15 t_weight_16 => (wp_X6_all t_now (fun r_17 => (wp_X6_plansFor (1 : Int32) ((r_17 &&& (r_4 ^^^ (-1 : Int32)))) t_top_12 t_live_13 t_measure_14 t_now t_planned_15 t_weight_16 (fun t_top_18 t_live_19 t_measure_20 t_planned_21 t_weight_22 => (post t_top_18 t_live_19 t_measure_20 t_planned_21 t_weight_22))))))))) n (0 : Int32) t_planned)))
abbrev rm_X6_plans : Room := { frames := 5, cells := 0, slots := 0, locals := 178 }
theorem in_X6_plans_X6 : ∀ w ∈ u_ws RX6 TX6 31, w ∈ wsX6_plans := by decide +kernel
theorem k_X6_plans_13 : Cond.fieldLink RX6 13 "ParityGameModel" "now" "[I" ∈ wsX6_plans := by decide +kernel
theorem k_X6_plans_45 : Cond.fieldLink RX6 45 "ParityGameModel" "planned" "[I" ∈ wsX6_plans := by decide +kernel
set_option maxHeartbeats 40000000 in
set_option maxRecDepth 100000 in
theorem c_X6_plans (l : Launch) (D : va_G) (X : gX) (cI cZ cB cG : ClassId) (sz : Nat) (q_t : Nat) (q_t_live : Nat) (q_t_measure : Nat) (q_t_now : Nat) (q_t_planned : Nat) (q_t_weight : Nat) (q_t_keys : Nat) (q_t_aside : Nat) (q_t_old : Nat) (q_t_saved : Nat) (q_t_input : Nat) (q_t_output : Nat) (q_t_came : Nat) (q_t_rank : Nat) (t_thrown : Int32) (t_oldMany : Int32) (t_savedSet : Int32) (t_inputMany : Int32) (t_outputMany : Int32) (t_errorCode : Int32) (t_errorPosition : Int32) (t_top : Int32) (t_ahead : Int32) (t_round : Int32) (t_loudest : Int32) (t_textEnd : Int32) (t_kind : Int32) (t_from : Int32) (t_to : Int32) (t_value : Int32) (t_fault : Int32) (t_faultAt : Int32) (t_live : (Nat → Int32)) (t_measure : (Nat → Int32)) (t_now : (Nat → Int32)) (t_planned : (Nat → Int32)) (t_weight : (Nat → Int32)) (post : Int32 → (Nat → Int32) → (Nat → Int32) → (Nat → Int32) → (Nat → Int32) → Prop) (hf : wp_X6_plans t_live t_measure t_now t_planned t_weight post) : Met l yX6_plans wsX6_plans rm_X6_plans (gP D X (gT cI cZ cB cG) sz [.ref q_t] (wd_X6_plans cI cZ cB cG q_t q_t_live q_t_measure q_t_now q_t_planned q_t_weight q_t_keys q_t_aside q_t_old q_t_saved q_t_input q_t_output q_t_came q_t_rank t_thrown t_oldMany t_savedSet t_inputMany t_outputMany t_errorCode t_errorPosition t_top t_ahead t_round t_loudest t_textEnd t_kind t_from t_to t_value t_fault t_faultAt t_live t_measure t_now t_planned t_weight)) (va_Qv (fun (u : Int32 × (Nat → Int32) × (Nat → Int32) × (Nat → Int32) × (Nat → Int32)) => post u.1 u.2.1 u.2.2.1 u.2.2.2.1 u.2.2.2.2) (fun u t => gB D (gT cI cZ cB cG) (va_A (wd_X6_plans cI cZ cB cG q_t q_t_live q_t_measure q_t_now q_t_planned q_t_weight q_t_keys q_t_aside q_t_old q_t_saved q_t_input q_t_output q_t_came q_t_rank t_thrown t_oldMany t_savedSet t_inputMany t_outputMany t_errorCode t_errorPosition t_top t_ahead t_round t_loudest t_textEnd t_kind t_from t_to t_value t_fault t_faultAt t_live t_measure t_now t_planned t_weight) sz) (wd_X6_plans cI cZ cB cG q_t q_t_live q_t_measure q_t_now q_t_planned q_t_weight q_t_keys q_t_aside q_t_old q_t_saved q_t_input q_t_output q_t_came q_t_rank t_thrown t_oldMany t_savedSet t_inputMany t_outputMany t_errorCode t_errorPosition u.1 t_ahead t_round t_loudest t_textEnd t_kind t_from t_to t_value t_fault t_faultAt u.2.1 u.2.2.1 t_now u.2.2.2.1 u.2.2.2.2) t) (va_A (wd_X6_plans cI cZ cB cG q_t q_t_live q_t_measure q_t_now q_t_planned q_t_weight q_t_keys q_t_aside q_t_old q_t_saved q_t_input q_t_output q_t_came q_t_rank t_thrown t_oldMany t_savedSet t_inputMany t_outputMany t_errorCode t_errorPosition t_top t_ahead t_round t_loudest t_textEnd t_kind t_from t_to t_value t_fault t_faultAt t_live t_measure t_now t_planned t_weight) sz)) 0 0 (va_A (wd_X6_plans cI cZ cB cG q_t q_t_live q_t_measure q_t_now q_t_planned q_t_weight q_t_keys q_t_aside q_t_old q_t_saved q_t_input q_t_output q_t_came q_t_rank t_thrown t_oldMany t_savedSet t_inputMany t_outputMany t_errorCode t_errorPosition t_top t_ahead t_round t_loudest t_textEnd t_kind t_from t_to t_value t_fault t_faultAt t_live t_measure t_now t_planned t_weight) sz) := by
  refine g_ofWv (cc := cX6_plans) (maxL := 3) (by decide +kernel) (Nat.le_of_ble_eq_true rfl) rfl ?_
  intro p e s m args below meth c A Q hx hb hml hown hts hA hK hE H hP hD hS ls hl hret
  have hinX6 := in_X6_plans_X6
  have k13 := hts _ k_X6_plans_13
  have k45 := hts _ k_X6_plans_45
  have hl : lv_has ls 3 [(0, .ref q_t)] := hl
  have L7 : ∀ (v1 : Int32) (t_top : Int32) (t_live : (Nat → Int32)) (t_measure : (Nat → Int32)) (t_weight : (Nat → Int32)) (K0 : Int32 → (Nat → Int32) → Prop) (_ : ∀ (v2 : Int32) (t_planned : (Nat → Int32)) (H : Heap) (locs : List Loc) (ls : Array Slot), K0 v2 t_planned → va_P D vwCl (wd_X6_plans cI cZ cB cG q_t q_t_live q_t_measure q_t_now q_t_planned q_t_weight q_t_keys q_t_aside q_t_old q_t_saved q_t_input q_t_output q_t_came q_t_rank t_thrown t_oldMany t_savedSet t_inputMany t_outputMany t_errorCode t_errorPosition t_top t_ahead t_round t_loudest t_textEnd t_kind t_from t_to t_value t_fault t_faultAt t_live t_measure t_now t_planned t_weight) H → va_D A (wd_X6_plans cI cZ cB cG q_t q_t_live q_t_measure q_t_now q_t_planned q_t_weight q_t_keys q_t_aside q_t_old q_t_saved q_t_input q_t_output q_t_came q_t_rank t_thrown t_oldMany t_savedSet t_inputMany t_outputMany t_errorCode t_errorPosition t_top t_ahead t_round t_loudest t_textEnd t_kind t_from t_to t_value t_fault t_faultAt t_live t_measure t_now t_planned t_weight) → va_S A s.heap H locs → lv_has ls 3 [(0, .ref q_t), (1, .int v1)] → W p l e (rm_X6_plans) s m args below meth c H locs 0 0 Q (F0 m 34 ls []))  (n : Nat) (v2 : Int32) (t_planned : (Nat → Int32)) (H : Heap) (locs : List Loc) (ls : Array Slot), fx2 (F_X6_plans_7 t_now K0) n v2 t_planned → va_P D vwCl (wd_X6_plans cI cZ cB cG q_t q_t_live q_t_measure q_t_now q_t_planned q_t_weight q_t_keys q_t_aside q_t_old q_t_saved q_t_input q_t_output q_t_came q_t_rank t_thrown t_oldMany t_savedSet t_inputMany t_outputMany t_errorCode t_errorPosition t_top t_ahead t_round t_loudest t_textEnd t_kind t_from t_to t_value t_fault t_faultAt t_live t_measure t_now t_planned t_weight) H → va_D A (wd_X6_plans cI cZ cB cG q_t q_t_live q_t_measure q_t_now q_t_planned q_t_weight q_t_keys q_t_aside q_t_old q_t_saved q_t_input q_t_output q_t_came q_t_rank t_thrown t_oldMany t_savedSet t_inputMany t_outputMany t_errorCode t_errorPosition t_top t_ahead t_round t_loudest t_textEnd t_kind t_from t_to t_value t_fault t_faultAt t_live t_measure t_now t_planned t_weight) → va_S A s.heap H locs → lv_has ls 3 [(0, .ref q_t), (1, .int v1), (2, .int v2)] → W p l e (rm_X6_plans) s m args below meth c H locs 0 0 Q (F0 m 7 ls []) := by
    intro v1 t_top t_live t_measure t_weight K0 hK0 n
    induction n with
    | zero => intro v2 t_planned H locs ls hf; exact (hf : False).elim
    | succ n ih =>
      intro v2 t_planned H locs ls hf hP hD hS hl
      have hf : F_X6_plans_7 t_now K0 (fx2 (F_X6_plans_7 t_now K0) n) v2 t_planned := hf
      unfold F_X6_plans_7 at hf
      refine lv_iload_n hx hb dX6_plans_7 rfl (lv_at hl 2 rfl) ?_
      refine lv_aload_n hx hb dX6_plans_8 rfl (lv_at hl 0 rfl) ?_
      refine va_get (D := D) (ci := 6) (v := .ref q_t_now) (C := RX6) (T := TX6) (N := 31) hx hb hts hinX6 hown hK hP 0 rfl rfl 2 (by decide) k13 (fun _ h9 => h9) rfl dX6_plans_9 ?_
      refine lv_iconst (v := (0 : Int32)) hx hb dX6_plans_12 (by decide) ?_
      refine va_iald hx hb hK hP 3 0 rfl rfl (n := 176) (by unfold vp_in; decide) dX6_plans_13 ?_
      refine lv_icmp_ge (tgt := 34) hx hb dX6_plans_14 (by decide) (fun hc => ?_) (fun hc => ?_)
      · have hf := hf.1 hc
        exact hK0 _ _ _ _ _ hf hP hD hS (lv_sub hl [0, 1] rfl)
      · have hf := hf.2 hc
        refine lv_aload_n hx hb dX6_plans_17 rfl (lv_at hl 0 rfl) ?_
        refine va_get (D := D) (ci := 6) (v := .ref q_t_planned) (C := RX6) (T := TX6) (N := 31) hx hb hts hinX6 hown hK hP 0 rfl rfl 18 (by decide) k45 (fun _ h9 => h9) rfl dX6_plans_18 ?_
        refine lv_iload_n hx hb dX6_plans_21 rfl (lv_at hl 2 rfl) ?_
        refine lv_aload_n hx hb dX6_plans_22 rfl (lv_at hl 0 rfl) ?_
        refine lv_iload_n hx hb dX6_plans_23 rfl (lv_at hl 2 rfl) ?_
        have hPc := hP.sub (ws' := (wd_X6_firstMove cI cZ cB cG q_t q_t_now q_t_keys q_t_aside q_t_old q_t_saved q_t_input q_t_output q_t_live q_t_weight q_t_measure q_t_planned q_t_came q_t_rank t_thrown t_oldMany t_savedSet t_inputMany t_outputMany t_errorCode t_errorPosition t_top t_ahead t_round t_loudest t_textEnd t_kind t_from t_to t_value t_fault t_faultAt t_now)) [0, 3] rfl
        have hDc := hD.sub (ws' := (wd_X6_firstMove cI cZ cB cG q_t q_t_now q_t_keys q_t_aside q_t_old q_t_saved q_t_input q_t_output q_t_live q_t_weight q_t_measure q_t_planned q_t_came q_t_rank t_thrown t_oldMany t_savedSet t_inputMany t_outputMany t_errorCode t_errorPosition t_top t_ahead t_round t_loudest t_textEnd t_kind t_from t_to t_value t_fault t_faultAt t_now)) [0, 3] (by decide +kernel) rfl
        have hFc := va_free (wc := (wd_X6_firstMove cI cZ cB cG q_t q_t_now q_t_keys q_t_aside q_t_old q_t_saved q_t_input q_t_output q_t_live q_t_weight q_t_measure q_t_planned q_t_came q_t_rank t_thrown t_oldMany t_savedSet t_inputMany t_outputMany t_errorCode t_errorPosition t_top t_ahead t_round t_loudest t_textEnd t_kind t_from t_to t_value t_fault t_faultAt t_now)) hD hS hA [0, 3] rfl
        refine va_calli (va_runV (As := [.int v2]) (rest := [.int v2, .ref q_t_planned]) ⟨hx, hb, hml, hown, hts⟩ (c_X6_firstMove l D X cI cZ cB cG H.size q_t q_t_now q_t_keys q_t_aside q_t_old q_t_saved q_t_input q_t_output q_t_live q_t_weight q_t_measure q_t_planned q_t_came q_t_rank v2 t_thrown t_oldMany t_savedSet t_inputMany t_outputMany t_errorCode t_errorPosition t_top t_ahead t_round t_loudest t_textEnd t_kind t_from t_to t_value t_fault t_faultAt t_now _ hf) (cwV 1 hts gX6_plans_X6_firstMove rfl rfl rfl (by decide +kernel) ⟨Nat.le_of_ble_eq_true rfl, Nat.le_of_ble_eq_true rfl⟩) ⟨g_blind, va_recv hK hPc (ci := 6) (q0 := 0) rfl rfl, fun U hU hW => g_side hU hW hPc hK hDc hE hS hFc⟩ rfl rfl hl.1 rfl (lv_room (Nat.le_of_ble_eq_true rfl)) dX6_plans_24 ⟨Nat.zero_le _, Nat.zero_le _⟩) hS (fun q _ h => hFc q h) hFc (fun r_9 u t H1 locs ht hvm hw hB hz1 hk1 hS => ?_)
        obtain ⟨hP1, hK1, hD1⟩ := hB
        rw [ht] at hP1
        obtain ⟨hP, hD⟩ := g_back (wc := (wd_X6_firstMove cI cZ cB cG q_t q_t_now q_t_keys q_t_aside q_t_old q_t_saved q_t_input q_t_output q_t_live q_t_weight q_t_measure q_t_planned q_t_came q_t_rank t_thrown t_oldMany t_savedSet t_inputMany t_outputMany t_errorCode t_errorPosition t_top t_ahead t_round t_loudest t_textEnd t_kind t_from t_to t_value t_fault t_faultAt t_now)) (w1 := (wd_X6_firstMove cI cZ cB cG q_t q_t_now q_t_keys q_t_aside q_t_old q_t_saved q_t_input q_t_output q_t_live q_t_weight q_t_measure q_t_planned q_t_came q_t_rank t_thrown t_oldMany t_savedSet t_inputMany t_outputMany t_errorCode t_errorPosition t_top t_ahead t_round t_loudest t_textEnd t_kind t_from t_to t_value t_fault t_faultAt t_now)) hP hD [0, 3] rfl rfl hk1 hP1
        have hP : va_P D vwCl (wd_X6_plans cI cZ cB cG q_t q_t_live q_t_measure q_t_now q_t_planned q_t_weight q_t_keys q_t_aside q_t_old q_t_saved q_t_input q_t_output q_t_came q_t_rank t_thrown t_oldMany t_savedSet t_inputMany t_outputMany t_errorCode t_errorPosition t_top t_ahead t_round t_loudest t_textEnd t_kind t_from t_to t_value t_fault t_faultAt t_live t_measure t_now t_planned t_weight) H1 := hP
        have hD : va_D A (wd_X6_plans cI cZ cB cG q_t q_t_live q_t_measure q_t_now q_t_planned q_t_weight q_t_keys q_t_aside q_t_old q_t_saved q_t_input q_t_output q_t_came q_t_rank t_thrown t_oldMany t_savedSet t_inputMany t_outputMany t_errorCode t_errorPosition t_top t_ahead t_round t_loudest t_textEnd t_kind t_from t_to t_value t_fault t_faultAt t_live t_measure t_now t_planned t_weight) := hD
        have hf := hw
        generalize H1 = H at hP hS ⊢
        refine va_iast hx hb hK hP hD hS 4 0 rfl rfl (n := 20) hf.1 dX6_plans_27 (fun H locs hP hD hS => ?_)
        have hf := hf.2
        have hP : va_P D vwCl (wd_X6_plans cI cZ cB cG q_t q_t_live q_t_measure q_t_now q_t_planned q_t_weight q_t_keys q_t_aside q_t_old q_t_saved q_t_input q_t_output q_t_came q_t_rank t_thrown t_oldMany t_savedSet t_inputMany t_outputMany t_errorCode t_errorPosition t_top t_ahead t_round t_loudest t_textEnd t_kind t_from t_to t_value t_fault t_faultAt t_live t_measure t_now (upd t_planned v2.toNatClampNeg r_9) t_weight) H := hP
        have hD : va_D A (wd_X6_plans cI cZ cB cG q_t q_t_live q_t_measure q_t_now q_t_planned q_t_weight q_t_keys q_t_aside q_t_old q_t_saved q_t_input q_t_output q_t_came q_t_rank t_thrown t_oldMany t_savedSet t_inputMany t_outputMany t_errorCode t_errorPosition t_top t_ahead t_round t_loudest t_textEnd t_kind t_from t_to t_value t_fault t_faultAt t_live t_measure t_now (upd t_planned v2.toNatClampNeg r_9) t_weight) := hD
        refine lv_iinc (v := (v2 + (1 : Int32))) (lv' := [(2, .int ((v2 + (1 : Int32)))), (0, .ref q_t), (1, .int v1)]) hx hb dX6_plans_28 hl (k := 2) rfl rfl (by decide) rfl (fun ls hl => ?_)
        refine lv_goto (tgt := 7) hx hb dX6_plans_31 (by decide) ?_
        exact ih _ _ _ _ _ hf hP hD hS (lv_sub hl [1, 2, 0] rfl)
  unfold wp_X6_plans at hf
  refine lv_aload_n hx hb dX6_plans_0 rfl (lv_at hl 0 rfl) ?_
  have hPc := hP.sub (ws' := (wd_X6_wonByEven cI cZ cB cG q_t q_t_live q_t_measure q_t_now q_t_weight q_t_keys q_t_aside q_t_old q_t_saved q_t_input q_t_output q_t_planned q_t_came q_t_rank t_thrown t_oldMany t_savedSet t_inputMany t_outputMany t_errorCode t_errorPosition t_top t_ahead t_round t_loudest t_textEnd t_kind t_from t_to t_value t_fault t_faultAt t_live t_measure t_now t_weight)) [0, 1, 2, 3, 5] rfl
  have hDc := hD.sub (ws' := (wd_X6_wonByEven cI cZ cB cG q_t q_t_live q_t_measure q_t_now q_t_weight q_t_keys q_t_aside q_t_old q_t_saved q_t_input q_t_output q_t_planned q_t_came q_t_rank t_thrown t_oldMany t_savedSet t_inputMany t_outputMany t_errorCode t_errorPosition t_top t_ahead t_round t_loudest t_textEnd t_kind t_from t_to t_value t_fault t_faultAt t_live t_measure t_now t_weight)) [0, 1, 2, 3, 5] (by decide +kernel) rfl
  have hFc := va_free (wc := (wd_X6_wonByEven cI cZ cB cG q_t q_t_live q_t_measure q_t_now q_t_weight q_t_keys q_t_aside q_t_old q_t_saved q_t_input q_t_output q_t_planned q_t_came q_t_rank t_thrown t_oldMany t_savedSet t_inputMany t_outputMany t_errorCode t_errorPosition t_top t_ahead t_round t_loudest t_textEnd t_kind t_from t_to t_value t_fault t_faultAt t_live t_measure t_now t_weight)) hD hS hA [0, 1, 2, 3, 5] rfl
  refine va_calli (va_runV (As := []) (rest := []) ⟨hx, hb, hml, hown, hts⟩ (c_X6_wonByEven l D X cI cZ cB cG H.size q_t q_t_live q_t_measure q_t_now q_t_weight q_t_keys q_t_aside q_t_old q_t_saved q_t_input q_t_output q_t_planned q_t_came q_t_rank t_thrown t_oldMany t_savedSet t_inputMany t_outputMany t_errorCode t_errorPosition t_top t_ahead t_round t_loudest t_textEnd t_kind t_from t_to t_value t_fault t_faultAt t_live t_measure t_now t_weight _ hf) (cwV 0 hts gX6_plans_X6_wonByEven rfl rfl rfl (by decide +kernel) ⟨Nat.le_of_ble_eq_true rfl, Nat.le_of_ble_eq_true rfl⟩) ⟨g_blind, va_recv hK hPc (ci := 6) (q0 := 0) rfl rfl, fun U hU hW => g_side hU hW hPc hK hDc hE hS hFc⟩ rfl rfl hl.1 rfl (lv_room (Nat.le_of_ble_eq_true rfl)) dX6_plans_1 ⟨Nat.zero_le _, Nat.zero_le _⟩) hS (fun q _ h => hFc q h) hFc (fun r_4 u t H1 locs ht hvm hw hB hz1 hk1 hS => ?_)
  obtain ⟨t_top_5, t_live_6, t_measure_7, t_weight_8⟩ := u
  obtain ⟨hP1, hK1, hD1⟩ := hB
  rw [ht] at hP1
  obtain ⟨hP, hD⟩ := g_back (wc := (wd_X6_wonByEven cI cZ cB cG q_t q_t_live q_t_measure q_t_now q_t_weight q_t_keys q_t_aside q_t_old q_t_saved q_t_input q_t_output q_t_planned q_t_came q_t_rank t_thrown t_oldMany t_savedSet t_inputMany t_outputMany t_errorCode t_errorPosition t_top t_ahead t_round t_loudest t_textEnd t_kind t_from t_to t_value t_fault t_faultAt t_live t_measure t_now t_weight)) (w1 := (wd_X6_wonByEven cI cZ cB cG q_t q_t_live q_t_measure q_t_now q_t_weight q_t_keys q_t_aside q_t_old q_t_saved q_t_input q_t_output q_t_planned q_t_came q_t_rank t_thrown t_oldMany t_savedSet t_inputMany t_outputMany t_errorCode t_errorPosition t_top_5 t_ahead t_round t_loudest t_textEnd t_kind t_from t_to t_value t_fault t_faultAt t_live_6 t_measure_7 t_now t_weight_8)) hP hD [0, 1, 2, 3, 5] rfl rfl hk1 hP1
  have hP : va_P D vwCl (wd_X6_plans cI cZ cB cG q_t q_t_live q_t_measure q_t_now q_t_planned q_t_weight q_t_keys q_t_aside q_t_old q_t_saved q_t_input q_t_output q_t_came q_t_rank t_thrown t_oldMany t_savedSet t_inputMany t_outputMany t_errorCode t_errorPosition t_top_5 t_ahead t_round t_loudest t_textEnd t_kind t_from t_to t_value t_fault t_faultAt t_live_6 t_measure_7 t_now t_planned t_weight_8) H1 := hP
  have hD : va_D A (wd_X6_plans cI cZ cB cG q_t q_t_live q_t_measure q_t_now q_t_planned q_t_weight q_t_keys q_t_aside q_t_old q_t_saved q_t_input q_t_output q_t_came q_t_rank t_thrown t_oldMany t_savedSet t_inputMany t_outputMany t_errorCode t_errorPosition t_top_5 t_ahead t_round t_loudest t_textEnd t_kind t_from t_to t_value t_fault t_faultAt t_live_6 t_measure_7 t_now t_planned t_weight_8) := hD
  have hf := hw
  generalize H1 = H at hP hS ⊢
  refine lv_istore_n (lv' := [(1, .int r_4), (0, .ref q_t)]) hx hb dX6_plans_4 rfl hl (by decide) rfl (fun ls hl => ?_)
  refine lv_iconst (v := (0 : Int32)) hx hb dX6_plans_5 (by decide) ?_
  refine lv_istore_n (lv' := [(2, .int (0 : Int32)), (1, .int r_4), (0, .ref q_t)]) hx hb dX6_plans_6 rfl hl (by decide) rfl (fun ls hl => ?_)
  obtain ⟨n, hf⟩ := hf
  refine L7 r_4 t_top_5 t_live_6 t_measure_7 t_weight_8 _ ?_  n _ _ _ _ _ hf hP hD hS (lv_sub hl [2, 1, 0] rfl)
  intro v2_10 t_planned_11 H locs ls hf hP hD hS hl
  refine lv_aload_n hx hb dX6_plans_34 rfl (lv_at hl 0 rfl) ?_
  refine lv_iconst (v := (0 : Int32)) hx hb dX6_plans_35 (by decide) ?_
  refine lv_iload_n hx hb dX6_plans_36 rfl (lv_at hl 1 rfl) ?_
  have hPc := hP.sub (ws' := (wd_X6_plansFor cI cZ cB cG q_t q_t_live q_t_measure q_t_now q_t_planned q_t_weight q_t_keys q_t_aside q_t_old q_t_saved q_t_input q_t_output q_t_came q_t_rank t_thrown t_oldMany t_savedSet t_inputMany t_outputMany t_errorCode t_errorPosition t_top_5 t_ahead t_round t_loudest t_textEnd t_kind t_from t_to t_value t_fault t_faultAt t_live_6 t_measure_7 t_now t_planned_11 t_weight_8)) [0, 1, 2, 3, 4, 5] rfl
  have hDc := hD.sub (ws' := (wd_X6_plansFor cI cZ cB cG q_t q_t_live q_t_measure q_t_now q_t_planned q_t_weight q_t_keys q_t_aside q_t_old q_t_saved q_t_input q_t_output q_t_came q_t_rank t_thrown t_oldMany t_savedSet t_inputMany t_outputMany t_errorCode t_errorPosition t_top_5 t_ahead t_round t_loudest t_textEnd t_kind t_from t_to t_value t_fault t_faultAt t_live_6 t_measure_7 t_now t_planned_11 t_weight_8)) [0, 1, 2, 3, 4, 5] (by decide +kernel) rfl
  have hFc := va_free (wc := (wd_X6_plansFor cI cZ cB cG q_t q_t_live q_t_measure q_t_now q_t_planned q_t_weight q_t_keys q_t_aside q_t_old q_t_saved q_t_input q_t_output q_t_came q_t_rank t_thrown t_oldMany t_savedSet t_inputMany t_outputMany t_errorCode t_errorPosition t_top_5 t_ahead t_round t_loudest t_textEnd t_kind t_from t_to t_value t_fault t_faultAt t_live_6 t_measure_7 t_now t_planned_11 t_weight_8)) hD hS hA [0, 1, 2, 3, 4, 5] rfl
  refine va_callv (va_runV (As := [.int (0 : Int32), .int r_4]) (rest := []) ⟨hx, hb, hml, hown, hts⟩ (c_X6_plansFor l D X cI cZ cB cG H.size q_t q_t_live q_t_measure q_t_now q_t_planned q_t_weight q_t_keys q_t_aside q_t_old q_t_saved q_t_input q_t_output q_t_came q_t_rank (0 : Int32) r_4 t_thrown t_oldMany t_savedSet t_inputMany t_outputMany t_errorCode t_errorPosition t_top_5 t_ahead t_round t_loudest t_textEnd t_kind t_from t_to t_value t_fault t_faultAt t_live_6 t_measure_7 t_now t_planned_11 t_weight_8 _ hf) (cwV 2 hts gX6_plans_X6_plansFor rfl rfl rfl (by decide +kernel) ⟨Nat.le_of_ble_eq_true rfl, Nat.le_of_ble_eq_true rfl⟩) ⟨g_blind, va_recv hK hPc (ci := 6) (q0 := 0) rfl rfl, fun U hU hW => g_side hU hW hPc hK hDc hE hS hFc⟩ rfl rfl hl.1 rfl (lv_room (Nat.le_of_ble_eq_true rfl)) dX6_plans_37 ⟨Nat.zero_le _, Nat.zero_le _⟩) hS (fun q _ h => hFc q h) hFc (fun u t H1 locs ht hvm hw hB hz1 hk1 hS => ?_)
  obtain ⟨t_top_12, t_live_13, t_measure_14, t_planned_15, t_weight_16⟩ := u
  obtain ⟨hP1, hK1, hD1⟩ := hB
  rw [ht] at hP1
  obtain ⟨hP, hD⟩ := g_back (wc := (wd_X6_plansFor cI cZ cB cG q_t q_t_live q_t_measure q_t_now q_t_planned q_t_weight q_t_keys q_t_aside q_t_old q_t_saved q_t_input q_t_output q_t_came q_t_rank t_thrown t_oldMany t_savedSet t_inputMany t_outputMany t_errorCode t_errorPosition t_top_5 t_ahead t_round t_loudest t_textEnd t_kind t_from t_to t_value t_fault t_faultAt t_live_6 t_measure_7 t_now t_planned_11 t_weight_8)) (w1 := (wd_X6_plansFor cI cZ cB cG q_t q_t_live q_t_measure q_t_now q_t_planned q_t_weight q_t_keys q_t_aside q_t_old q_t_saved q_t_input q_t_output q_t_came q_t_rank t_thrown t_oldMany t_savedSet t_inputMany t_outputMany t_errorCode t_errorPosition t_top_12 t_ahead t_round t_loudest t_textEnd t_kind t_from t_to t_value t_fault t_faultAt t_live_13 t_measure_14 t_now t_planned_15 t_weight_16)) hP hD [0, 1, 2, 3, 4, 5] rfl rfl hk1 hP1
  have hP : va_P D vwCl (wd_X6_plans cI cZ cB cG q_t q_t_live q_t_measure q_t_now q_t_planned q_t_weight q_t_keys q_t_aside q_t_old q_t_saved q_t_input q_t_output q_t_came q_t_rank t_thrown t_oldMany t_savedSet t_inputMany t_outputMany t_errorCode t_errorPosition t_top_12 t_ahead t_round t_loudest t_textEnd t_kind t_from t_to t_value t_fault t_faultAt t_live_13 t_measure_14 t_now t_planned_15 t_weight_16) H1 := hP
  have hD : va_D A (wd_X6_plans cI cZ cB cG q_t q_t_live q_t_measure q_t_now q_t_planned q_t_weight q_t_keys q_t_aside q_t_old q_t_saved q_t_input q_t_output q_t_came q_t_rank t_thrown t_oldMany t_savedSet t_inputMany t_outputMany t_errorCode t_errorPosition t_top_12 t_ahead t_round t_loudest t_textEnd t_kind t_from t_to t_value t_fault t_faultAt t_live_13 t_measure_14 t_now t_planned_15 t_weight_16) := hD
  have hf := hw
  generalize H1 = H at hP hS ⊢
  refine lv_aload_n hx hb dX6_plans_40 rfl (lv_at hl 0 rfl) ?_
  refine lv_iconst (v := (1 : Int32)) hx hb dX6_plans_41 (by decide) ?_
  refine lv_aload_n hx hb dX6_plans_42 rfl (lv_at hl 0 rfl) ?_
  have hPc := hP.sub (ws' := (wd_X6_all cI cZ cB cG q_t q_t_now q_t_keys q_t_aside q_t_old q_t_saved q_t_input q_t_output q_t_live q_t_weight q_t_measure q_t_planned q_t_came q_t_rank t_thrown t_oldMany t_savedSet t_inputMany t_outputMany t_errorCode t_errorPosition t_top_12 t_ahead t_round t_loudest t_textEnd t_kind t_from t_to t_value t_fault t_faultAt t_now)) [0, 3] rfl
  have hDc := hD.sub (ws' := (wd_X6_all cI cZ cB cG q_t q_t_now q_t_keys q_t_aside q_t_old q_t_saved q_t_input q_t_output q_t_live q_t_weight q_t_measure q_t_planned q_t_came q_t_rank t_thrown t_oldMany t_savedSet t_inputMany t_outputMany t_errorCode t_errorPosition t_top_12 t_ahead t_round t_loudest t_textEnd t_kind t_from t_to t_value t_fault t_faultAt t_now)) [0, 3] (by decide +kernel) rfl
  have hFc := va_free (wc := (wd_X6_all cI cZ cB cG q_t q_t_now q_t_keys q_t_aside q_t_old q_t_saved q_t_input q_t_output q_t_live q_t_weight q_t_measure q_t_planned q_t_came q_t_rank t_thrown t_oldMany t_savedSet t_inputMany t_outputMany t_errorCode t_errorPosition t_top_12 t_ahead t_round t_loudest t_textEnd t_kind t_from t_to t_value t_fault t_faultAt t_now)) hD hS hA [0, 3] rfl
  refine va_calli (va_runV (As := []) (rest := [.int (1 : Int32), .ref q_t]) ⟨hx, hb, hml, hown, hts⟩ (c_X6_all l D X cI cZ cB cG H.size q_t q_t_now q_t_keys q_t_aside q_t_old q_t_saved q_t_input q_t_output q_t_live q_t_weight q_t_measure q_t_planned q_t_came q_t_rank t_thrown t_oldMany t_savedSet t_inputMany t_outputMany t_errorCode t_errorPosition t_top_12 t_ahead t_round t_loudest t_textEnd t_kind t_from t_to t_value t_fault t_faultAt t_now _ hf) (cwV 0 hts gX6_plans_X6_all rfl rfl rfl (by decide +kernel) ⟨Nat.le_of_ble_eq_true rfl, Nat.le_of_ble_eq_true rfl⟩) ⟨g_blind, va_recv hK hPc (ci := 6) (q0 := 0) rfl rfl, fun U hU hW => g_side hU hW hPc hK hDc hE hS hFc⟩ rfl rfl hl.1 rfl (lv_room (Nat.le_of_ble_eq_true rfl)) dX6_plans_43 ⟨Nat.zero_le _, Nat.zero_le _⟩) hS (fun q _ h => hFc q h) hFc (fun r_17 u t H1 locs ht hvm hw hB hz1 hk1 hS => ?_)
  obtain ⟨hP1, hK1, hD1⟩ := hB
  rw [ht] at hP1
  obtain ⟨hP, hD⟩ := g_back (wc := (wd_X6_all cI cZ cB cG q_t q_t_now q_t_keys q_t_aside q_t_old q_t_saved q_t_input q_t_output q_t_live q_t_weight q_t_measure q_t_planned q_t_came q_t_rank t_thrown t_oldMany t_savedSet t_inputMany t_outputMany t_errorCode t_errorPosition t_top_12 t_ahead t_round t_loudest t_textEnd t_kind t_from t_to t_value t_fault t_faultAt t_now)) (w1 := (wd_X6_all cI cZ cB cG q_t q_t_now q_t_keys q_t_aside q_t_old q_t_saved q_t_input q_t_output q_t_live q_t_weight q_t_measure q_t_planned q_t_came q_t_rank t_thrown t_oldMany t_savedSet t_inputMany t_outputMany t_errorCode t_errorPosition t_top_12 t_ahead t_round t_loudest t_textEnd t_kind t_from t_to t_value t_fault t_faultAt t_now)) hP hD [0, 3] rfl rfl hk1 hP1
  have hP : va_P D vwCl (wd_X6_plans cI cZ cB cG q_t q_t_live q_t_measure q_t_now q_t_planned q_t_weight q_t_keys q_t_aside q_t_old q_t_saved q_t_input q_t_output q_t_came q_t_rank t_thrown t_oldMany t_savedSet t_inputMany t_outputMany t_errorCode t_errorPosition t_top_12 t_ahead t_round t_loudest t_textEnd t_kind t_from t_to t_value t_fault t_faultAt t_live_13 t_measure_14 t_now t_planned_15 t_weight_16) H1 := hP
  have hD : va_D A (wd_X6_plans cI cZ cB cG q_t q_t_live q_t_measure q_t_now q_t_planned q_t_weight q_t_keys q_t_aside q_t_old q_t_saved q_t_input q_t_output q_t_came q_t_rank t_thrown t_oldMany t_savedSet t_inputMany t_outputMany t_errorCode t_errorPosition t_top_12 t_ahead t_round t_loudest t_textEnd t_kind t_from t_to t_value t_fault t_faultAt t_live_13 t_measure_14 t_now t_planned_15 t_weight_16) := hD
  have hf := hw
  generalize H1 = H at hP hS ⊢
  refine lv_iload_n hx hb dX6_plans_46 rfl (lv_at hl 1 rfl) ?_
  refine lv_iconst (v := (-1 : Int32)) hx hb dX6_plans_47 (by decide) ?_
  refine lv_ixor hx hb dX6_plans_48 ?_
  refine lv_iand hx hb dX6_plans_49 ?_
  have hPc := hP.sub (ws' := (wd_X6_plansFor cI cZ cB cG q_t q_t_live q_t_measure q_t_now q_t_planned q_t_weight q_t_keys q_t_aside q_t_old q_t_saved q_t_input q_t_output q_t_came q_t_rank t_thrown t_oldMany t_savedSet t_inputMany t_outputMany t_errorCode t_errorPosition t_top_12 t_ahead t_round t_loudest t_textEnd t_kind t_from t_to t_value t_fault t_faultAt t_live_13 t_measure_14 t_now t_planned_15 t_weight_16)) [0, 1, 2, 3, 4, 5] rfl
  have hDc := hD.sub (ws' := (wd_X6_plansFor cI cZ cB cG q_t q_t_live q_t_measure q_t_now q_t_planned q_t_weight q_t_keys q_t_aside q_t_old q_t_saved q_t_input q_t_output q_t_came q_t_rank t_thrown t_oldMany t_savedSet t_inputMany t_outputMany t_errorCode t_errorPosition t_top_12 t_ahead t_round t_loudest t_textEnd t_kind t_from t_to t_value t_fault t_faultAt t_live_13 t_measure_14 t_now t_planned_15 t_weight_16)) [0, 1, 2, 3, 4, 5] (by decide +kernel) rfl
  have hFc := va_free (wc := (wd_X6_plansFor cI cZ cB cG q_t q_t_live q_t_measure q_t_now q_t_planned q_t_weight q_t_keys q_t_aside q_t_old q_t_saved q_t_input q_t_output q_t_came q_t_rank t_thrown t_oldMany t_savedSet t_inputMany t_outputMany t_errorCode t_errorPosition t_top_12 t_ahead t_round t_loudest t_textEnd t_kind t_from t_to t_value t_fault t_faultAt t_live_13 t_measure_14 t_now t_planned_15 t_weight_16)) hD hS hA [0, 1, 2, 3, 4, 5] rfl
  refine va_callv (va_runV (As := [.int (1 : Int32), .int ((r_17 &&& (r_4 ^^^ (-1 : Int32))))]) (rest := []) ⟨hx, hb, hml, hown, hts⟩ (c_X6_plansFor l D X cI cZ cB cG H.size q_t q_t_live q_t_measure q_t_now q_t_planned q_t_weight q_t_keys q_t_aside q_t_old q_t_saved q_t_input q_t_output q_t_came q_t_rank (1 : Int32) ((r_17 &&& (r_4 ^^^ (-1 : Int32)))) t_thrown t_oldMany t_savedSet t_inputMany t_outputMany t_errorCode t_errorPosition t_top_12 t_ahead t_round t_loudest t_textEnd t_kind t_from t_to t_value t_fault t_faultAt t_live_13 t_measure_14 t_now t_planned_15 t_weight_16 _ hf) (cwV 2 hts gX6_plans_X6_plansFor rfl rfl rfl (by decide +kernel) ⟨Nat.le_of_ble_eq_true rfl, Nat.le_of_ble_eq_true rfl⟩) ⟨g_blind, va_recv hK hPc (ci := 6) (q0 := 0) rfl rfl, fun U hU hW => g_side hU hW hPc hK hDc hE hS hFc⟩ rfl rfl hl.1 rfl (lv_room (Nat.le_of_ble_eq_true rfl)) dX6_plans_50 ⟨Nat.zero_le _, Nat.zero_le _⟩) hS (fun q _ h => hFc q h) hFc (fun u t H1 locs ht hvm hw hB hz1 hk1 hS => ?_)
  obtain ⟨t_top_18, t_live_19, t_measure_20, t_planned_21, t_weight_22⟩ := u
  obtain ⟨hP1, hK1, hD1⟩ := hB
  rw [ht] at hP1
  obtain ⟨hP, hD⟩ := g_back (wc := (wd_X6_plansFor cI cZ cB cG q_t q_t_live q_t_measure q_t_now q_t_planned q_t_weight q_t_keys q_t_aside q_t_old q_t_saved q_t_input q_t_output q_t_came q_t_rank t_thrown t_oldMany t_savedSet t_inputMany t_outputMany t_errorCode t_errorPosition t_top_12 t_ahead t_round t_loudest t_textEnd t_kind t_from t_to t_value t_fault t_faultAt t_live_13 t_measure_14 t_now t_planned_15 t_weight_16)) (w1 := (wd_X6_plansFor cI cZ cB cG q_t q_t_live q_t_measure q_t_now q_t_planned q_t_weight q_t_keys q_t_aside q_t_old q_t_saved q_t_input q_t_output q_t_came q_t_rank t_thrown t_oldMany t_savedSet t_inputMany t_outputMany t_errorCode t_errorPosition t_top_18 t_ahead t_round t_loudest t_textEnd t_kind t_from t_to t_value t_fault t_faultAt t_live_19 t_measure_20 t_now t_planned_21 t_weight_22)) hP hD [0, 1, 2, 3, 4, 5] rfl rfl hk1 hP1
  have hP : va_P D vwCl (wd_X6_plans cI cZ cB cG q_t q_t_live q_t_measure q_t_now q_t_planned q_t_weight q_t_keys q_t_aside q_t_old q_t_saved q_t_input q_t_output q_t_came q_t_rank t_thrown t_oldMany t_savedSet t_inputMany t_outputMany t_errorCode t_errorPosition t_top_18 t_ahead t_round t_loudest t_textEnd t_kind t_from t_to t_value t_fault t_faultAt t_live_19 t_measure_20 t_now t_planned_21 t_weight_22) H1 := hP
  have hD : va_D A (wd_X6_plans cI cZ cB cG q_t q_t_live q_t_measure q_t_now q_t_planned q_t_weight q_t_keys q_t_aside q_t_old q_t_saved q_t_input q_t_output q_t_came q_t_rank t_thrown t_oldMany t_savedSet t_inputMany t_outputMany t_errorCode t_errorPosition t_top_18 t_ahead t_round t_loudest t_textEnd t_kind t_from t_to t_value t_fault t_faultAt t_live_19 t_measure_20 t_now t_planned_21 t_weight_22) := hD
  have hf := hw
  generalize H1 = H at hP hS ⊢
  exact hret (t_top_18, t_live_19, t_measure_20, t_planned_21, t_weight_22) hf hP hD hS dX6_plans_53
abbrev wd_X6_plays (cI cZ cB cG : ClassId) (q_t : Nat) (q_t_came : Nat) (q_t_now : Nat) (q_t_planned : Nat) (q_t_keys : Nat) (q_t_aside : Nat) (q_t_old : Nat) (q_t_saved : Nat) (q_t_input : Nat) (q_t_output : Nat) (q_t_live : Nat) (q_t_weight : Nat) (q_t_measure : Nat) (q_t_rank : Nat) (t_thrown : Int32) (t_oldMany : Int32) (t_savedSet : Int32) (t_inputMany : Int32) (t_outputMany : Int32) (t_errorCode : Int32) (t_errorPosition : Int32) (t_top : Int32) (t_ahead : Int32) (t_round : Int32) (t_loudest : Int32) (t_textEnd : Int32) (t_kind : Int32) (t_from : Int32) (t_to : Int32) (t_value : Int32) (t_fault : Int32) (t_faultAt : Int32) (t_came : (Nat → Int32)) (t_now : (Nat → Int32)) (t_planned : (Nat → Int32)) : va_W := [(q_t, .inr (6, [.ref q_t_keys, .int t_thrown, .ref q_t_now, .ref q_t_aside, .ref q_t_old, .int t_oldMany, .ref q_t_saved, .int t_savedSet, .ref q_t_input, .int t_inputMany, .ref q_t_output, .int t_outputMany, .int t_errorCode, .int t_errorPosition, .ref q_t_live, .ref q_t_weight, .ref q_t_measure, .int t_top, .ref q_t_planned, .ref q_t_came, .ref q_t_rank, .int t_ahead, .int t_round, .int t_loudest, .int t_textEnd, .int t_kind, .int t_from, .int t_to, .int t_value, .int t_fault, .int t_faultAt])), (q_t_came, .inl (cI, 20, .inl t_came)), (q_t_now, .inl (cI, 176, .inl t_now)), (q_t_planned, .inl (cI, 20, .inl t_planned))]
def F_X6_plays_2 (t_now : (Nat → Int32)) (K0 : Int32 → (Nat → Int32) → Prop) (rec : Int32 → (Nat → Int32) → Prop) (v2 : Int32) (t_came : (Nat → Int32)) : Prop := (((t_now 0) ≤ v2 → (K0 v2 t_came)) ∧ (¬ ((t_now 0) ≤ v2) → (vp_in v2 20 ∧ (rec ((v2 + (1 : Int32))) ((upd t_came v2.toNatClampNeg (-1 : Int32)))))))
def F_X6_plays_29 (t_now : (Nat → Int32)) (t_planned : (Nat → Int32)) (K0 : Int32 → Int32 → (Nat → Int32) → Prop) (rec : Int32 → Int32 → (Nat → Int32) → Prop) (v2 : Int32) (v3 : Int32) (t_came : (Nat → Int32)) : Prop := (vp_in v2 20 ∧ ((¬ (t_came v2.toNatClampNeg) = (-1 : Int32) → (K0 v2 v3 t_came)) ∧ ((t_came v2.toNatClampNeg) = (-1 : Int32) → (vp_in v2 20 ∧ (((t_planned v2.toNatClampNeg) = (-1 : Int32) → (K0 v2 v3 t_came)) ∧ (¬ ((t_planned v2.toNatClampNeg) = (-1 : Int32)) → (vp_in v2 20 ∧ (vp_in v2 20 ∧ (vp_in (((105 : Int32) + (t_planned v2.toNatClampNeg))) 176 ∧ (rec ((t_now (((105 : Int32) + (t_planned v2.toNatClampNeg))).toNatClampNeg)) ((v3 + (1 : Int32))) (upd t_came v2.toNatClampNeg v3)))))))))))
def F_X6_plays_133 (t_ahead : Int32) (t_came : (Nat → Int32)) (t_now : (Nat → Int32)) (K0 : Int32 → Int32 → Prop) (rec : Int32 → Int32 → Prop) (v4 : Int32) (t_loudest : Int32) : Prop := (((t_now 0) ≤ v4 → (K0 v4 t_loudest)) ∧ (¬ ((t_now 0) ≤ v4) → (vp_in v4 20 ∧ (((t_came v4.toNatClampNeg) < t_ahead → (rec ((v4 + (1 : Int32))) t_loudest)) ∧ (¬ ((t_came v4.toNatClampNeg) < t_ahead) → (vp_in (((24 : Int32) + v4)) 176 ∧ (((t_now (((24 : Int32) + v4)).toNatClampNeg) ≤ t_loudest → (rec ((v4 + (1 : Int32))) t_loudest)) ∧ (¬ ((t_now (((24 : Int32) + v4)).toNatClampNeg) ≤ t_loudest) → (vp_in (((24 : Int32) + v4)) 176 ∧ (rec ((v4 + (1 : Int32))) ((t_now (((24 : Int32) + v4)).toNatClampNeg))))))))))))
def wp_X6_plays (a1 : Int32) (t_came : (Nat → Int32)) (t_now : (Nat → Int32)) (t_planned : (Nat → Int32)) (post : Int32 → Int32 → Int32 → (Nat → Int32) → Prop) : Prop := (∃ n, fx2 (F_X6_plays_2 t_now (fun v2_1 t_came_2 => (∃ n, fx3 (F_X6_plays_29 t_now t_planned (fun v2_3 v3_4 t_came_5 => (vp_in v2_3 20 ∧ ((¬ (t_planned v2_3.toNatClampNeg) = (-1 : Int32) → (vp_in v2_3 20 ∧ (vp_in v2_3 20 ∧ (∃ n, fx2 (F_X6_plays_133 (t_came_5 v2_3.toNatClampNeg) t_came_5 t_now (fun v4_6 t_loudest_7 => (post (t_came_5 v2_3.toNatClampNeg) ((v3_4 - (t_came_5 v2_3.toNatClampNeg))) t_loudest_7 t_came_5))) n (0 : Int32) (-1 : Int32))))) ∧ ((t_planned v2_3.toNatClampNeg) = (-1 : Int32) → (post v3_4 (0 : Int32) (-1 : Int32) t_came_5)))))) n a1 (0 : Int32) t_came_2))) n (0 : Int32) t_came)
abbrev rm_X6_plays : Room := { frames := 1, cells := 0, slots := 0, locals := 80 }
theorem in_X6_plays_X6 : ∀ w ∈ u_ws RX6 TX6 31, w ∈ wsX6_plays := by decide +kernel
theorem k_X6_plays_13 : Cond.fieldLink RX6 13 "ParityGameModel" "now" "[I" ∈ wsX6_plays := by decide +kernel
theorem k_X6_plays_45 : Cond.fieldLink RX6 45 "ParityGameModel" "planned" "[I" ∈ wsX6_plays := by decide +kernel
theorem k_X6_plays_48 : Cond.fieldLink RX6 48 "ParityGameModel" "came" "[I" ∈ wsX6_plays := by decide +kernel
theorem k_X6_plays_115 : Cond.fieldLink RX6 115 "ParityGameModel" "ahead" "I" ∈ wsX6_plays := by decide +kernel
theorem k_X6_plays_118 : Cond.fieldLink RX6 118 "ParityGameModel" "round" "I" ∈ wsX6_plays := by decide +kernel
theorem k_X6_plays_121 : Cond.fieldLink RX6 121 "ParityGameModel" "loudest" "I" ∈ wsX6_plays := by decide +kernel
set_option maxHeartbeats 40000000 in
set_option maxRecDepth 100000 in
theorem c_X6_plays (l : Launch) (D : va_G) (X : gX) (cI cZ cB cG : ClassId) (sz : Nat) (q_t : Nat) (q_t_came : Nat) (q_t_now : Nat) (q_t_planned : Nat) (q_t_keys : Nat) (q_t_aside : Nat) (q_t_old : Nat) (q_t_saved : Nat) (q_t_input : Nat) (q_t_output : Nat) (q_t_live : Nat) (q_t_weight : Nat) (q_t_measure : Nat) (q_t_rank : Nat) (a1 : Int32) (t_thrown : Int32) (t_oldMany : Int32) (t_savedSet : Int32) (t_inputMany : Int32) (t_outputMany : Int32) (t_errorCode : Int32) (t_errorPosition : Int32) (t_top : Int32) (t_ahead : Int32) (t_round : Int32) (t_loudest : Int32) (t_textEnd : Int32) (t_kind : Int32) (t_from : Int32) (t_to : Int32) (t_value : Int32) (t_fault : Int32) (t_faultAt : Int32) (t_came : (Nat → Int32)) (t_now : (Nat → Int32)) (t_planned : (Nat → Int32)) (post : Int32 → Int32 → Int32 → (Nat → Int32) → Prop) (hf : wp_X6_plays a1 t_came t_now t_planned post) : Met l yX6_plays wsX6_plays rm_X6_plays (gP D X (gT cI cZ cB cG) sz [.ref q_t, .int a1] (wd_X6_plays cI cZ cB cG q_t q_t_came q_t_now q_t_planned q_t_keys q_t_aside q_t_old q_t_saved q_t_input q_t_output q_t_live q_t_weight q_t_measure q_t_rank t_thrown t_oldMany t_savedSet t_inputMany t_outputMany t_errorCode t_errorPosition t_top t_ahead t_round t_loudest t_textEnd t_kind t_from t_to t_value t_fault t_faultAt t_came t_now t_planned)) (va_Qv (fun (u : Int32 × Int32 × Int32 × (Nat → Int32)) => post u.1 u.2.1 u.2.2.1 u.2.2.2) (fun u t => gB D (gT cI cZ cB cG) (va_A (wd_X6_plays cI cZ cB cG q_t q_t_came q_t_now q_t_planned q_t_keys q_t_aside q_t_old q_t_saved q_t_input q_t_output q_t_live q_t_weight q_t_measure q_t_rank t_thrown t_oldMany t_savedSet t_inputMany t_outputMany t_errorCode t_errorPosition t_top t_ahead t_round t_loudest t_textEnd t_kind t_from t_to t_value t_fault t_faultAt t_came t_now t_planned) sz) (wd_X6_plays cI cZ cB cG q_t q_t_came q_t_now q_t_planned q_t_keys q_t_aside q_t_old q_t_saved q_t_input q_t_output q_t_live q_t_weight q_t_measure q_t_rank t_thrown t_oldMany t_savedSet t_inputMany t_outputMany t_errorCode t_errorPosition t_top u.1 u.2.1 u.2.2.1 t_textEnd t_kind t_from t_to t_value t_fault t_faultAt u.2.2.2 t_now t_planned) t) (va_A (wd_X6_plays cI cZ cB cG q_t q_t_came q_t_now q_t_planned q_t_keys q_t_aside q_t_old q_t_saved q_t_input q_t_output q_t_live q_t_weight q_t_measure q_t_rank t_thrown t_oldMany t_savedSet t_inputMany t_outputMany t_errorCode t_errorPosition t_top t_ahead t_round t_loudest t_textEnd t_kind t_from t_to t_value t_fault t_faultAt t_came t_now t_planned) sz)) 0 0 (va_A (wd_X6_plays cI cZ cB cG q_t q_t_came q_t_now q_t_planned q_t_keys q_t_aside q_t_old q_t_saved q_t_input q_t_output q_t_live q_t_weight q_t_measure q_t_rank t_thrown t_oldMany t_savedSet t_inputMany t_outputMany t_errorCode t_errorPosition t_top t_ahead t_round t_loudest t_textEnd t_kind t_from t_to t_value t_fault t_faultAt t_came t_now t_planned) sz) := by
  refine g_ofWv (cc := cX6_plays) (maxL := 5) (by decide +kernel) (Nat.le_of_ble_eq_true rfl) rfl ?_
  intro p e s m args below meth c A Q hx hb hml hown hts hA hK hE H hP hD hS ls hl hret
  have hinX6 := in_X6_plays_X6
  have k13 := hts _ k_X6_plays_13
  have k45 := hts _ k_X6_plays_45
  have k48 := hts _ k_X6_plays_48
  have k115 := hts _ k_X6_plays_115
  have k118 := hts _ k_X6_plays_118
  have k121 := hts _ k_X6_plays_121
  have hl : lv_has ls 5 [(0, .ref q_t), (1, .int a1)] := hl
  have L2 : ∀ (v1 : Int32) (t_ahead : Int32) (t_round : Int32) (t_loudest : Int32) (K0 : Int32 → (Nat → Int32) → Prop) (_ : ∀ (v2 : Int32) (t_came : (Nat → Int32)) (H : Heap) (locs : List Loc) (ls : Array Slot), K0 v2 t_came → va_P D vwCl (wd_X6_plays cI cZ cB cG q_t q_t_came q_t_now q_t_planned q_t_keys q_t_aside q_t_old q_t_saved q_t_input q_t_output q_t_live q_t_weight q_t_measure q_t_rank t_thrown t_oldMany t_savedSet t_inputMany t_outputMany t_errorCode t_errorPosition t_top t_ahead t_round t_loudest t_textEnd t_kind t_from t_to t_value t_fault t_faultAt t_came t_now t_planned) H → va_D A (wd_X6_plays cI cZ cB cG q_t q_t_came q_t_now q_t_planned q_t_keys q_t_aside q_t_old q_t_saved q_t_input q_t_output q_t_live q_t_weight q_t_measure q_t_rank t_thrown t_oldMany t_savedSet t_inputMany t_outputMany t_errorCode t_errorPosition t_top t_ahead t_round t_loudest t_textEnd t_kind t_from t_to t_value t_fault t_faultAt t_came t_now t_planned) → va_S A s.heap H locs → lv_has ls 5 [(0, .ref q_t), (1, .int v1)] → W p l e (rm_X6_plays) s m args below meth c H locs 0 0 Q (F0 m 25 ls []))  (n : Nat) (v2 : Int32) (t_came : (Nat → Int32)) (H : Heap) (locs : List Loc) (ls : Array Slot), fx2 (F_X6_plays_2 t_now K0) n v2 t_came → va_P D vwCl (wd_X6_plays cI cZ cB cG q_t q_t_came q_t_now q_t_planned q_t_keys q_t_aside q_t_old q_t_saved q_t_input q_t_output q_t_live q_t_weight q_t_measure q_t_rank t_thrown t_oldMany t_savedSet t_inputMany t_outputMany t_errorCode t_errorPosition t_top t_ahead t_round t_loudest t_textEnd t_kind t_from t_to t_value t_fault t_faultAt t_came t_now t_planned) H → va_D A (wd_X6_plays cI cZ cB cG q_t q_t_came q_t_now q_t_planned q_t_keys q_t_aside q_t_old q_t_saved q_t_input q_t_output q_t_live q_t_weight q_t_measure q_t_rank t_thrown t_oldMany t_savedSet t_inputMany t_outputMany t_errorCode t_errorPosition t_top t_ahead t_round t_loudest t_textEnd t_kind t_from t_to t_value t_fault t_faultAt t_came t_now t_planned) → va_S A s.heap H locs → lv_has ls 5 [(0, .ref q_t), (1, .int v1), (2, .int v2)] → W p l e (rm_X6_plays) s m args below meth c H locs 0 0 Q (F0 m 2 ls []) := by
    intro v1 t_ahead t_round t_loudest K0 hK0 n
    induction n with
    | zero => intro v2 t_came H locs ls hf; exact (hf : False).elim
    | succ n ih =>
      intro v2 t_came H locs ls hf hP hD hS hl
      have hf : F_X6_plays_2 t_now K0 (fx2 (F_X6_plays_2 t_now K0) n) v2 t_came := hf
      unfold F_X6_plays_2 at hf
      refine lv_iload_n hx hb dX6_plays_2 rfl (lv_at hl 2 rfl) ?_
      refine lv_aload_n hx hb dX6_plays_3 rfl (lv_at hl 0 rfl) ?_
      refine va_get (D := D) (ci := 6) (v := .ref q_t_now) (C := RX6) (T := TX6) (N := 31) hx hb hts hinX6 hown hK hP 0 rfl rfl 2 (by decide) k13 (fun _ h9 => h9) rfl dX6_plays_4 ?_
      refine lv_iconst (v := (0 : Int32)) hx hb dX6_plays_7 (by decide) ?_
      refine va_iald hx hb hK hP 2 0 rfl rfl (n := 176) (by unfold vp_in; decide) dX6_plays_8 ?_
      refine lv_icmp_ge (tgt := 25) hx hb dX6_plays_9 (by decide) (fun hc => ?_) (fun hc => ?_)
      · have hf := hf.1 hc
        exact hK0 _ _ _ _ _ hf hP hD hS (lv_sub hl [0, 1] rfl)
      · have hf := hf.2 hc
        refine lv_aload_n hx hb dX6_plays_12 rfl (lv_at hl 0 rfl) ?_
        refine va_get (D := D) (ci := 6) (v := .ref q_t_came) (C := RX6) (T := TX6) (N := 31) hx hb hts hinX6 hown hK hP 0 rfl rfl 19 (by decide) k48 (fun _ h9 => h9) rfl dX6_plays_13 ?_
        refine lv_iload_n hx hb dX6_plays_16 rfl (lv_at hl 2 rfl) ?_
        refine lv_iconst (v := (-1 : Int32)) hx hb dX6_plays_17 (by decide) ?_
        refine va_iast hx hb hK hP hD hS 1 0 rfl rfl (n := 20) hf.1 dX6_plays_18 (fun H locs hP hD hS => ?_)
        have hf := hf.2
        have hP : va_P D vwCl (wd_X6_plays cI cZ cB cG q_t q_t_came q_t_now q_t_planned q_t_keys q_t_aside q_t_old q_t_saved q_t_input q_t_output q_t_live q_t_weight q_t_measure q_t_rank t_thrown t_oldMany t_savedSet t_inputMany t_outputMany t_errorCode t_errorPosition t_top t_ahead t_round t_loudest t_textEnd t_kind t_from t_to t_value t_fault t_faultAt ((upd t_came v2.toNatClampNeg (-1 : Int32))) t_now t_planned) H := hP
        have hD : va_D A (wd_X6_plays cI cZ cB cG q_t q_t_came q_t_now q_t_planned q_t_keys q_t_aside q_t_old q_t_saved q_t_input q_t_output q_t_live q_t_weight q_t_measure q_t_rank t_thrown t_oldMany t_savedSet t_inputMany t_outputMany t_errorCode t_errorPosition t_top t_ahead t_round t_loudest t_textEnd t_kind t_from t_to t_value t_fault t_faultAt ((upd t_came v2.toNatClampNeg (-1 : Int32))) t_now t_planned) := hD
        refine lv_iinc (v := (v2 + (1 : Int32))) (lv' := [(2, .int ((v2 + (1 : Int32)))), (0, .ref q_t), (1, .int v1)]) hx hb dX6_plays_19 hl (k := 2) rfl rfl (by decide) rfl (fun ls hl => ?_)
        refine lv_goto (tgt := 2) hx hb dX6_plays_22 (by decide) ?_
        exact ih _ _ _ _ _ hf hP hD hS (lv_sub hl [1, 2, 0] rfl)
  have L29 : ∀ (t_ahead : Int32) (t_round : Int32) (t_loudest : Int32) (K0 : Int32 → Int32 → (Nat → Int32) → Prop) (_ : ∀ (v2 : Int32) (v3 : Int32) (t_came : (Nat → Int32)) (H : Heap) (locs : List Loc) (ls : Array Slot), K0 v2 v3 t_came → va_P D vwCl (wd_X6_plays cI cZ cB cG q_t q_t_came q_t_now q_t_planned q_t_keys q_t_aside q_t_old q_t_saved q_t_input q_t_output q_t_live q_t_weight q_t_measure q_t_rank t_thrown t_oldMany t_savedSet t_inputMany t_outputMany t_errorCode t_errorPosition t_top t_ahead t_round t_loudest t_textEnd t_kind t_from t_to t_value t_fault t_faultAt t_came t_now t_planned) H → va_D A (wd_X6_plays cI cZ cB cG q_t q_t_came q_t_now q_t_planned q_t_keys q_t_aside q_t_old q_t_saved q_t_input q_t_output q_t_live q_t_weight q_t_measure q_t_rank t_thrown t_oldMany t_savedSet t_inputMany t_outputMany t_errorCode t_errorPosition t_top t_ahead t_round t_loudest t_textEnd t_kind t_from t_to t_value t_fault t_faultAt t_came t_now t_planned) → va_S A s.heap H locs → lv_has ls 5 [(0, .ref q_t), (2, .int v2), (3, .int v3)] → W p l e (rm_X6_plays) s m args below meth c H locs 0 0 Q (F0 m 77 ls []))  (n : Nat) (v2 : Int32) (v3 : Int32) (t_came : (Nat → Int32)) (H : Heap) (locs : List Loc) (ls : Array Slot), fx3 (F_X6_plays_29 t_now t_planned K0) n v2 v3 t_came → va_P D vwCl (wd_X6_plays cI cZ cB cG q_t q_t_came q_t_now q_t_planned q_t_keys q_t_aside q_t_old q_t_saved q_t_input q_t_output q_t_live q_t_weight q_t_measure q_t_rank t_thrown t_oldMany t_savedSet t_inputMany t_outputMany t_errorCode t_errorPosition t_top t_ahead t_round t_loudest t_textEnd t_kind t_from t_to t_value t_fault t_faultAt t_came t_now t_planned) H → va_D A (wd_X6_plays cI cZ cB cG q_t q_t_came q_t_now q_t_planned q_t_keys q_t_aside q_t_old q_t_saved q_t_input q_t_output q_t_live q_t_weight q_t_measure q_t_rank t_thrown t_oldMany t_savedSet t_inputMany t_outputMany t_errorCode t_errorPosition t_top t_ahead t_round t_loudest t_textEnd t_kind t_from t_to t_value t_fault t_faultAt t_came t_now t_planned) → va_S A s.heap H locs → lv_has ls 5 [(0, .ref q_t), (2, .int v2), (3, .int v3)] → W p l e (rm_X6_plays) s m args below meth c H locs 0 0 Q (F0 m 29 ls []) := by
    intro t_ahead t_round t_loudest K0 hK0 n
    induction n with
    | zero => intro v2 v3 t_came H locs ls hf; exact (hf : False).elim
    | succ n ih =>
      intro v2 v3 t_came H locs ls hf hP hD hS hl
      have hf : F_X6_plays_29 t_now t_planned K0 (fx3 (F_X6_plays_29 t_now t_planned K0) n) v2 v3 t_came := hf
      unfold F_X6_plays_29 at hf
      refine lv_aload_n hx hb dX6_plays_29 rfl (lv_at hl 0 rfl) ?_
      refine va_get (D := D) (ci := 6) (v := .ref q_t_came) (C := RX6) (T := TX6) (N := 31) hx hb hts hinX6 hown hK hP 0 rfl rfl 19 (by decide) k48 (fun _ h9 => h9) rfl dX6_plays_30 ?_
      refine lv_iload_n hx hb dX6_plays_33 rfl (lv_at hl 1 rfl) ?_
      refine va_iald hx hb hK hP 1 0 rfl rfl (n := 20) hf.1 dX6_plays_34 ?_
      have hf := hf.2
      refine lv_iconst (v := (-1 : Int32)) hx hb dX6_plays_35 (by decide) ?_
      refine lv_icmp_ne (tgt := 77) hx hb dX6_plays_36 (by decide) (fun hc => ?_) (fun hc => ?_)
      · have hf := hf.1 hc
        exact hK0 _ _ _ _ _ _ hf hP hD hS (lv_sub hl [0, 1, 2] rfl)
      · have hf := hf.2 hc
        refine lv_aload_n hx hb dX6_plays_39 rfl (lv_at hl 0 rfl) ?_
        refine va_get (D := D) (ci := 6) (v := .ref q_t_planned) (C := RX6) (T := TX6) (N := 31) hx hb hts hinX6 hown hK hP 0 rfl rfl 18 (by decide) k45 (fun _ h9 => h9) rfl dX6_plays_40 ?_
        refine lv_iload_n hx hb dX6_plays_43 rfl (lv_at hl 1 rfl) ?_
        refine va_iald hx hb hK hP 3 0 rfl rfl (n := 20) hf.1 dX6_plays_44 ?_
        have hf := hf.2
        refine lv_iconst (v := (-1 : Int32)) hx hb dX6_plays_45 (by decide) ?_
        refine lv_icmp_eq (tgt := 77) hx hb dX6_plays_46 (by decide) (fun hc => ?_) (fun hc => ?_)
        · have hf := hf.1 hc
          exact hK0 _ _ _ _ _ _ hf hP hD hS (lv_sub hl [0, 1, 2] rfl)
        · have hf := hf.2 hc
          refine lv_aload_n hx hb dX6_plays_49 rfl (lv_at hl 0 rfl) ?_
          refine va_get (D := D) (ci := 6) (v := .ref q_t_came) (C := RX6) (T := TX6) (N := 31) hx hb hts hinX6 hown hK hP 0 rfl rfl 19 (by decide) k48 (fun _ h9 => h9) rfl dX6_plays_50 ?_
          refine lv_iload_n hx hb dX6_plays_53 rfl (lv_at hl 1 rfl) ?_
          refine lv_iload_n hx hb dX6_plays_54 rfl (lv_at hl 2 rfl) ?_
          refine va_iast hx hb hK hP hD hS 1 0 rfl rfl (n := 20) hf.1 dX6_plays_55 (fun H locs hP hD hS => ?_)
          have hf := hf.2
          have hP : va_P D vwCl (wd_X6_plays cI cZ cB cG q_t q_t_came q_t_now q_t_planned q_t_keys q_t_aside q_t_old q_t_saved q_t_input q_t_output q_t_live q_t_weight q_t_measure q_t_rank t_thrown t_oldMany t_savedSet t_inputMany t_outputMany t_errorCode t_errorPosition t_top t_ahead t_round t_loudest t_textEnd t_kind t_from t_to t_value t_fault t_faultAt (upd t_came v2.toNatClampNeg v3) t_now t_planned) H := hP
          have hD : va_D A (wd_X6_plays cI cZ cB cG q_t q_t_came q_t_now q_t_planned q_t_keys q_t_aside q_t_old q_t_saved q_t_input q_t_output q_t_live q_t_weight q_t_measure q_t_rank t_thrown t_oldMany t_savedSet t_inputMany t_outputMany t_errorCode t_errorPosition t_top t_ahead t_round t_loudest t_textEnd t_kind t_from t_to t_value t_fault t_faultAt (upd t_came v2.toNatClampNeg v3) t_now t_planned) := hD
          refine lv_iinc (v := (v3 + (1 : Int32))) (lv' := [(3, .int ((v3 + (1 : Int32)))), (0, .ref q_t), (2, .int v2)]) hx hb dX6_plays_56 hl (k := 2) rfl rfl (by decide) rfl (fun ls hl => ?_)
          refine lv_aload_n hx hb dX6_plays_59 rfl (lv_at hl 1 rfl) ?_
          refine va_get (D := D) (ci := 6) (v := .ref q_t_now) (C := RX6) (T := TX6) (N := 31) hx hb hts hinX6 hown hK hP 0 rfl rfl 2 (by decide) k13 (fun _ h9 => h9) rfl dX6_plays_60 ?_
          refine lv_bipush (v := (105 : Int32)) hx hb dX6_plays_63 (by decide) ?_
          refine lv_aload_n hx hb dX6_plays_65 rfl (lv_at hl 1 rfl) ?_
          refine va_get (D := D) (ci := 6) (v := .ref q_t_planned) (C := RX6) (T := TX6) (N := 31) hx hb hts hinX6 hown hK hP 0 rfl rfl 18 (by decide) k45 (fun _ h9 => h9) rfl dX6_plays_66 ?_
          refine lv_iload_n hx hb dX6_plays_69 rfl (lv_at hl 2 rfl) ?_
          refine va_iald hx hb hK hP 3 0 rfl rfl (n := 20) hf.1 dX6_plays_70 ?_
          have hf := hf.2
          refine lv_iadd hx hb dX6_plays_71 ?_
          refine va_iald hx hb hK hP 2 0 rfl rfl (n := 176) hf.1 dX6_plays_72 ?_
          have hf := hf.2
          refine lv_istore_n (lv' := [(2, .int ((t_now (((105 : Int32) + (t_planned v2.toNatClampNeg))).toNatClampNeg))), (3, .int ((v3 + (1 : Int32)))), (0, .ref q_t)]) hx hb dX6_plays_73 rfl hl (by decide) rfl (fun ls hl => ?_)
          refine lv_goto (tgt := 29) hx hb dX6_plays_74 (by decide) ?_
          exact ih _ _ _ _ _ _ hf hP hD hS (lv_sub hl [2, 0, 1] rfl)
  have L133 : ∀ (t_ahead : Int32) (t_round : Int32) (t_came : (Nat → Int32)) (K0 : Int32 → Int32 → Prop) (_ : ∀ (v4 : Int32) (t_loudest : Int32) (H : Heap) (locs : List Loc) (ls : Array Slot), K0 v4 t_loudest → va_P D vwCl (wd_X6_plays cI cZ cB cG q_t q_t_came q_t_now q_t_planned q_t_keys q_t_aside q_t_old q_t_saved q_t_input q_t_output q_t_live q_t_weight q_t_measure q_t_rank t_thrown t_oldMany t_savedSet t_inputMany t_outputMany t_errorCode t_errorPosition t_top t_ahead t_round t_loudest t_textEnd t_kind t_from t_to t_value t_fault t_faultAt t_came t_now t_planned) H → va_D A (wd_X6_plays cI cZ cB cG q_t q_t_came q_t_now q_t_planned q_t_keys q_t_aside q_t_old q_t_saved q_t_input q_t_output q_t_live q_t_weight q_t_measure q_t_rank t_thrown t_oldMany t_savedSet t_inputMany t_outputMany t_errorCode t_errorPosition t_top t_ahead t_round t_loudest t_textEnd t_kind t_from t_to t_value t_fault t_faultAt t_came t_now t_planned) → va_S A s.heap H locs → lv_has ls 5 [] → W p l e (rm_X6_plays) s m args below meth c H locs 0 0 Q (F0 m 195 ls []))  (n : Nat) (v4 : Int32) (t_loudest : Int32) (H : Heap) (locs : List Loc) (ls : Array Slot), fx2 (F_X6_plays_133 t_ahead t_came t_now K0) n v4 t_loudest → va_P D vwCl (wd_X6_plays cI cZ cB cG q_t q_t_came q_t_now q_t_planned q_t_keys q_t_aside q_t_old q_t_saved q_t_input q_t_output q_t_live q_t_weight q_t_measure q_t_rank t_thrown t_oldMany t_savedSet t_inputMany t_outputMany t_errorCode t_errorPosition t_top t_ahead t_round t_loudest t_textEnd t_kind t_from t_to t_value t_fault t_faultAt t_came t_now t_planned) H → va_D A (wd_X6_plays cI cZ cB cG q_t q_t_came q_t_now q_t_planned q_t_keys q_t_aside q_t_old q_t_saved q_t_input q_t_output q_t_live q_t_weight q_t_measure q_t_rank t_thrown t_oldMany t_savedSet t_inputMany t_outputMany t_errorCode t_errorPosition t_top t_ahead t_round t_loudest t_textEnd t_kind t_from t_to t_value t_fault t_faultAt t_came t_now t_planned) → va_S A s.heap H locs → lv_has ls 5 [(0, .ref q_t), (4, .int v4)] → W p l e (rm_X6_plays) s m args below meth c H locs 0 0 Q (F0 m 133 ls []) := by
    intro t_ahead t_round t_came K0 hK0 n
    induction n with
    | zero => intro v4 t_loudest H locs ls hf; exact (hf : False).elim
    | succ n ih =>
      intro v4 t_loudest H locs ls hf hP hD hS hl
      have hf : F_X6_plays_133 t_ahead t_came t_now K0 (fx2 (F_X6_plays_133 t_ahead t_came t_now K0) n) v4 t_loudest := hf
      unfold F_X6_plays_133 at hf
      refine lv_iload hx hb dX6_plays_133 (lv_at hl 1 rfl) ?_
      refine lv_aload_n hx hb dX6_plays_135 rfl (lv_at hl 0 rfl) ?_
      refine va_get (D := D) (ci := 6) (v := .ref q_t_now) (C := RX6) (T := TX6) (N := 31) hx hb hts hinX6 hown hK hP 0 rfl rfl 2 (by decide) k13 (fun _ h9 => h9) rfl dX6_plays_136 ?_
      refine lv_iconst (v := (0 : Int32)) hx hb dX6_plays_139 (by decide) ?_
      refine va_iald hx hb hK hP 2 0 rfl rfl (n := 176) (by unfold vp_in; decide) dX6_plays_140 ?_
      refine lv_icmp_ge (tgt := 195) hx hb dX6_plays_141 (by decide) (fun hc => ?_) (fun hc => ?_)
      · have hf := hf.1 hc
        exact hK0 _ _ _ _ _ hf hP hD hS (lv_sub hl [] rfl)
      · have hf := hf.2 hc
        refine lv_aload_n hx hb dX6_plays_144 rfl (lv_at hl 0 rfl) ?_
        refine va_get (D := D) (ci := 6) (v := .ref q_t_came) (C := RX6) (T := TX6) (N := 31) hx hb hts hinX6 hown hK hP 0 rfl rfl 19 (by decide) k48 (fun _ h9 => h9) rfl dX6_plays_145 ?_
        refine lv_iload hx hb dX6_plays_148 (lv_at hl 1 rfl) ?_
        refine va_iald hx hb hK hP 1 0 rfl rfl (n := 20) hf.1 dX6_plays_150 ?_
        have hf := hf.2
        refine lv_aload_n hx hb dX6_plays_151 rfl (lv_at hl 0 rfl) ?_
        refine va_get (D := D) (ci := 6) (v := .int t_ahead) (C := RX6) (T := TX6) (N := 31) hx hb hts hinX6 hown hK hP 0 rfl rfl 21 (by decide) k115 (fun _ h9 => h9) rfl dX6_plays_152 ?_
        refine lv_icmp_lt (tgt := 189) hx hb dX6_plays_155 (by decide) (fun hc => ?_) (fun hc => ?_)
        · have hf := hf.1 hc
          refine lv_iinc (v := (v4 + (1 : Int32))) (lv' := [(4, .int ((v4 + (1 : Int32)))), (0, .ref q_t)]) hx hb dX6_plays_189 hl (k := 1) rfl rfl (by decide) rfl (fun ls hl => ?_)
          refine lv_goto (tgt := 133) hx hb dX6_plays_192 (by decide) ?_
          exact ih _ _ _ _ _ hf hP hD hS (lv_sub hl [1, 0] rfl)
        · have hf := hf.2 hc
          refine lv_aload_n hx hb dX6_plays_158 rfl (lv_at hl 0 rfl) ?_
          refine va_get (D := D) (ci := 6) (v := .ref q_t_now) (C := RX6) (T := TX6) (N := 31) hx hb hts hinX6 hown hK hP 0 rfl rfl 2 (by decide) k13 (fun _ h9 => h9) rfl dX6_plays_159 ?_
          refine lv_bipush (v := (24 : Int32)) hx hb dX6_plays_162 (by decide) ?_
          refine lv_iload hx hb dX6_plays_164 (lv_at hl 1 rfl) ?_
          refine lv_iadd hx hb dX6_plays_166 ?_
          refine va_iald hx hb hK hP 2 0 rfl rfl (n := 176) hf.1 dX6_plays_167 ?_
          have hf := hf.2
          refine lv_aload_n hx hb dX6_plays_168 rfl (lv_at hl 0 rfl) ?_
          refine va_get (D := D) (ci := 6) (v := .int t_loudest) (C := RX6) (T := TX6) (N := 31) hx hb hts hinX6 hown hK hP 0 rfl rfl 23 (by decide) k121 (fun _ h9 => h9) rfl dX6_plays_169 ?_
          refine lv_icmp_le (tgt := 189) hx hb dX6_plays_172 (by decide) (fun hc => ?_) (fun hc => ?_)
          · have hf := hf.1 hc
            refine lv_iinc (v := (v4 + (1 : Int32))) (lv' := [(4, .int ((v4 + (1 : Int32)))), (0, .ref q_t)]) hx hb dX6_plays_189 hl (k := 1) rfl rfl (by decide) rfl (fun ls hl => ?_)
            refine lv_goto (tgt := 133) hx hb dX6_plays_192 (by decide) ?_
            exact ih _ _ _ _ _ hf hP hD hS (lv_sub hl [1, 0] rfl)
          · have hf := hf.2 hc
            refine lv_aload_n hx hb dX6_plays_175 rfl (lv_at hl 0 rfl) ?_
            refine lv_aload_n hx hb dX6_plays_176 rfl (lv_at hl 0 rfl) ?_
            refine va_get (D := D) (ci := 6) (v := .ref q_t_now) (C := RX6) (T := TX6) (N := 31) hx hb hts hinX6 hown hK hP 0 rfl rfl 2 (by decide) k13 (fun _ h9 => h9) rfl dX6_plays_177 ?_
            refine lv_bipush (v := (24 : Int32)) hx hb dX6_plays_180 (by decide) ?_
            refine lv_iload hx hb dX6_plays_182 (lv_at hl 1 rfl) ?_
            refine lv_iadd hx hb dX6_plays_184 ?_
            refine va_iald hx hb hK hP 2 0 rfl rfl (n := 176) hf.1 dX6_plays_185 ?_
            have hf := hf.2
            refine va_put (D := D) (ci := 6) (v := .int ((t_now (((24 : Int32) + v4)).toNatClampNeg))) (ty := .int) (C := RX6) (T := TX6) (N := 31) hx hb hts hinX6 tyX6 tyX6_ok nmX6 hown hK hP hD hS 0 rfl rfl 23 (by decide) k121 (fun _ h9 => h9) rfl (by decide +kernel) rfl rfl (Nat.le_of_ble_eq_true rfl) dX6_plays_186 (fun H locs hP hD hS => ?_)
            have hP : va_P D vwCl (wd_X6_plays cI cZ cB cG q_t q_t_came q_t_now q_t_planned q_t_keys q_t_aside q_t_old q_t_saved q_t_input q_t_output q_t_live q_t_weight q_t_measure q_t_rank t_thrown t_oldMany t_savedSet t_inputMany t_outputMany t_errorCode t_errorPosition t_top t_ahead t_round ((t_now (((24 : Int32) + v4)).toNatClampNeg)) t_textEnd t_kind t_from t_to t_value t_fault t_faultAt t_came t_now t_planned) H := hP
            have hD : va_D A (wd_X6_plays cI cZ cB cG q_t q_t_came q_t_now q_t_planned q_t_keys q_t_aside q_t_old q_t_saved q_t_input q_t_output q_t_live q_t_weight q_t_measure q_t_rank t_thrown t_oldMany t_savedSet t_inputMany t_outputMany t_errorCode t_errorPosition t_top t_ahead t_round ((t_now (((24 : Int32) + v4)).toNatClampNeg)) t_textEnd t_kind t_from t_to t_value t_fault t_faultAt t_came t_now t_planned) := hD
            refine lv_iinc (v := (v4 + (1 : Int32))) (lv' := [(4, .int ((v4 + (1 : Int32)))), (0, .ref q_t)]) hx hb dX6_plays_189 hl (k := 1) rfl rfl (by decide) rfl (fun ls hl => ?_)
            refine lv_goto (tgt := 133) hx hb dX6_plays_192 (by decide) ?_
            exact ih _ _ _ _ _ hf hP hD hS (lv_sub hl [1, 0] rfl)
  unfold wp_X6_plays at hf
  refine lv_iconst (v := (0 : Int32)) hx hb dX6_plays_0 (by decide) ?_
  refine lv_istore_n (lv' := [(2, .int (0 : Int32)), (0, .ref q_t), (1, .int a1)]) hx hb dX6_plays_1 rfl hl (by decide) rfl (fun ls hl => ?_)
  obtain ⟨n, hf⟩ := hf
  refine L2 a1 t_ahead t_round t_loudest _ ?_  n _ _ _ _ _ hf hP hD hS (lv_sub hl [1, 2, 0] rfl)
  intro v2_1 t_came_2 H locs ls hf hP hD hS hl
  refine lv_iload_n hx hb dX6_plays_25 rfl (lv_at hl 1 rfl) ?_
  refine lv_istore_n (lv' := [(2, .int a1), (0, .ref q_t), (1, .int a1)]) hx hb dX6_plays_26 rfl hl (by decide) rfl (fun ls hl => ?_)
  refine lv_iconst (v := (0 : Int32)) hx hb dX6_plays_27 (by decide) ?_
  refine lv_istore_n (lv' := [(3, .int (0 : Int32)), (2, .int a1), (0, .ref q_t), (1, .int a1)]) hx hb dX6_plays_28 rfl hl (by decide) rfl (fun ls hl => ?_)
  obtain ⟨n, hf⟩ := hf
  refine L29 t_ahead t_round t_loudest _ ?_  n _ _ _ _ _ _ hf hP hD hS (lv_sub hl [2, 1, 0] rfl)
  intro v2_3 v3_4 t_came_5 H locs ls hf hP hD hS hl
  refine lv_aload_n hx hb dX6_plays_77 rfl (lv_at hl 0 rfl) ?_
  refine va_get (D := D) (ci := 6) (v := .ref q_t_planned) (C := RX6) (T := TX6) (N := 31) hx hb hts hinX6 hown hK hP 0 rfl rfl 18 (by decide) k45 (fun _ h9 => h9) rfl dX6_plays_78 ?_
  refine lv_iload_n hx hb dX6_plays_81 rfl (lv_at hl 1 rfl) ?_
  refine va_iald hx hb hK hP 3 0 rfl rfl (n := 20) hf.1 dX6_plays_82 ?_
  have hf := hf.2
  refine lv_iconst (v := (-1 : Int32)) hx hb dX6_plays_83 (by decide) ?_
  refine lv_icmp_ne (tgt := 103) hx hb dX6_plays_84 (by decide) (fun hc => ?_) (fun hc => ?_)
  · have hf := hf.1 hc
    refine lv_aload_n hx hb dX6_plays_103 rfl (lv_at hl 0 rfl) ?_
    refine lv_aload_n hx hb dX6_plays_104 rfl (lv_at hl 0 rfl) ?_
    refine va_get (D := D) (ci := 6) (v := .ref q_t_came) (C := RX6) (T := TX6) (N := 31) hx hb hts hinX6 hown hK hP 0 rfl rfl 19 (by decide) k48 (fun _ h9 => h9) rfl dX6_plays_105 ?_
    refine lv_iload_n hx hb dX6_plays_108 rfl (lv_at hl 1 rfl) ?_
    refine va_iald hx hb hK hP 1 0 rfl rfl (n := 20) hf.1 dX6_plays_109 ?_
    have hf := hf.2
    refine va_put (D := D) (ci := 6) (v := .int (t_came_5 v2_3.toNatClampNeg)) (ty := .int) (C := RX6) (T := TX6) (N := 31) hx hb hts hinX6 tyX6 tyX6_ok nmX6 hown hK hP hD hS 0 rfl rfl 21 (by decide) k115 (fun _ h9 => h9) rfl (by decide +kernel) rfl rfl (Nat.le_of_ble_eq_true rfl) dX6_plays_110 (fun H locs hP hD hS => ?_)
    have hP : va_P D vwCl (wd_X6_plays cI cZ cB cG q_t q_t_came q_t_now q_t_planned q_t_keys q_t_aside q_t_old q_t_saved q_t_input q_t_output q_t_live q_t_weight q_t_measure q_t_rank t_thrown t_oldMany t_savedSet t_inputMany t_outputMany t_errorCode t_errorPosition t_top (t_came_5 v2_3.toNatClampNeg) t_round t_loudest t_textEnd t_kind t_from t_to t_value t_fault t_faultAt t_came_5 t_now t_planned) H := hP
    have hD : va_D A (wd_X6_plays cI cZ cB cG q_t q_t_came q_t_now q_t_planned q_t_keys q_t_aside q_t_old q_t_saved q_t_input q_t_output q_t_live q_t_weight q_t_measure q_t_rank t_thrown t_oldMany t_savedSet t_inputMany t_outputMany t_errorCode t_errorPosition t_top (t_came_5 v2_3.toNatClampNeg) t_round t_loudest t_textEnd t_kind t_from t_to t_value t_fault t_faultAt t_came_5 t_now t_planned) := hD
    refine lv_aload_n hx hb dX6_plays_113 rfl (lv_at hl 0 rfl) ?_
    refine lv_iload_n hx hb dX6_plays_114 rfl (lv_at hl 2 rfl) ?_
    refine lv_aload_n hx hb dX6_plays_115 rfl (lv_at hl 0 rfl) ?_
    refine va_get (D := D) (ci := 6) (v := .ref q_t_came) (C := RX6) (T := TX6) (N := 31) hx hb hts hinX6 hown hK hP 0 rfl rfl 19 (by decide) k48 (fun _ h9 => h9) rfl dX6_plays_116 ?_
    refine lv_iload_n hx hb dX6_plays_119 rfl (lv_at hl 1 rfl) ?_
    refine va_iald hx hb hK hP 1 0 rfl rfl (n := 20) hf.1 dX6_plays_120 ?_
    have hf := hf.2
    refine lv_isub hx hb dX6_plays_121 ?_
    refine va_put (D := D) (ci := 6) (v := .int ((v3_4 - (t_came_5 v2_3.toNatClampNeg)))) (ty := .int) (C := RX6) (T := TX6) (N := 31) hx hb hts hinX6 tyX6 tyX6_ok nmX6 hown hK hP hD hS 0 rfl rfl 22 (by decide) k118 (fun _ h9 => h9) rfl (by decide +kernel) rfl rfl (Nat.le_of_ble_eq_true rfl) dX6_plays_122 (fun H locs hP hD hS => ?_)
    have hP : va_P D vwCl (wd_X6_plays cI cZ cB cG q_t q_t_came q_t_now q_t_planned q_t_keys q_t_aside q_t_old q_t_saved q_t_input q_t_output q_t_live q_t_weight q_t_measure q_t_rank t_thrown t_oldMany t_savedSet t_inputMany t_outputMany t_errorCode t_errorPosition t_top (t_came_5 v2_3.toNatClampNeg) ((v3_4 - (t_came_5 v2_3.toNatClampNeg))) t_loudest t_textEnd t_kind t_from t_to t_value t_fault t_faultAt t_came_5 t_now t_planned) H := hP
    have hD : va_D A (wd_X6_plays cI cZ cB cG q_t q_t_came q_t_now q_t_planned q_t_keys q_t_aside q_t_old q_t_saved q_t_input q_t_output q_t_live q_t_weight q_t_measure q_t_rank t_thrown t_oldMany t_savedSet t_inputMany t_outputMany t_errorCode t_errorPosition t_top (t_came_5 v2_3.toNatClampNeg) ((v3_4 - (t_came_5 v2_3.toNatClampNeg))) t_loudest t_textEnd t_kind t_from t_to t_value t_fault t_faultAt t_came_5 t_now t_planned) := hD
    refine lv_aload_n hx hb dX6_plays_125 rfl (lv_at hl 0 rfl) ?_
    refine lv_iconst (v := (-1 : Int32)) hx hb dX6_plays_126 (by decide) ?_
    refine va_put (D := D) (ci := 6) (v := .int (-1 : Int32)) (ty := .int) (C := RX6) (T := TX6) (N := 31) hx hb hts hinX6 tyX6 tyX6_ok nmX6 hown hK hP hD hS 0 rfl rfl 23 (by decide) k121 (fun _ h9 => h9) rfl (by decide +kernel) rfl rfl (Nat.le_of_ble_eq_true rfl) dX6_plays_127 (fun H locs hP hD hS => ?_)
    have hP : va_P D vwCl (wd_X6_plays cI cZ cB cG q_t q_t_came q_t_now q_t_planned q_t_keys q_t_aside q_t_old q_t_saved q_t_input q_t_output q_t_live q_t_weight q_t_measure q_t_rank t_thrown t_oldMany t_savedSet t_inputMany t_outputMany t_errorCode t_errorPosition t_top (t_came_5 v2_3.toNatClampNeg) ((v3_4 - (t_came_5 v2_3.toNatClampNeg))) (-1 : Int32) t_textEnd t_kind t_from t_to t_value t_fault t_faultAt t_came_5 t_now t_planned) H := hP
    have hD : va_D A (wd_X6_plays cI cZ cB cG q_t q_t_came q_t_now q_t_planned q_t_keys q_t_aside q_t_old q_t_saved q_t_input q_t_output q_t_live q_t_weight q_t_measure q_t_rank t_thrown t_oldMany t_savedSet t_inputMany t_outputMany t_errorCode t_errorPosition t_top (t_came_5 v2_3.toNatClampNeg) ((v3_4 - (t_came_5 v2_3.toNatClampNeg))) (-1 : Int32) t_textEnd t_kind t_from t_to t_value t_fault t_faultAt t_came_5 t_now t_planned) := hD
    refine lv_iconst (v := (0 : Int32)) hx hb dX6_plays_130 (by decide) ?_
    refine lv_istore (lv' := [(4, .int (0 : Int32)), (0, .ref q_t), (2, .int v2_3), (3, .int v3_4)]) hx hb dX6_plays_131 hl (by decide) rfl (fun ls hl => ?_)
    obtain ⟨n, hf⟩ := hf
    refine L133 (t_came_5 v2_3.toNatClampNeg) ((v3_4 - (t_came_5 v2_3.toNatClampNeg))) t_came_5 _ ?_  n _ _ _ _ _ hf hP hD hS (lv_sub hl [1, 0] rfl)
    intro v4_6 t_loudest_7 H locs ls hf hP hD hS hl
    exact hret (((t_came_5 v2_3.toNatClampNeg), (v3_4 - (t_came_5 v2_3.toNatClampNeg)), t_loudest_7, t_came_5)) hf hP hD hS dX6_plays_195
  · have hf := hf.2 hc
    refine lv_aload_n hx hb dX6_plays_87 rfl (lv_at hl 0 rfl) ?_
    refine lv_iload_n hx hb dX6_plays_88 rfl (lv_at hl 2 rfl) ?_
    refine va_put (D := D) (ci := 6) (v := .int v3_4) (ty := .int) (C := RX6) (T := TX6) (N := 31) hx hb hts hinX6 tyX6 tyX6_ok nmX6 hown hK hP hD hS 0 rfl rfl 21 (by decide) k115 (fun _ h9 => h9) rfl (by decide +kernel) rfl rfl (Nat.le_of_ble_eq_true rfl) dX6_plays_89 (fun H locs hP hD hS => ?_)
    have hP : va_P D vwCl (wd_X6_plays cI cZ cB cG q_t q_t_came q_t_now q_t_planned q_t_keys q_t_aside q_t_old q_t_saved q_t_input q_t_output q_t_live q_t_weight q_t_measure q_t_rank t_thrown t_oldMany t_savedSet t_inputMany t_outputMany t_errorCode t_errorPosition t_top v3_4 t_round t_loudest t_textEnd t_kind t_from t_to t_value t_fault t_faultAt t_came_5 t_now t_planned) H := hP
    have hD : va_D A (wd_X6_plays cI cZ cB cG q_t q_t_came q_t_now q_t_planned q_t_keys q_t_aside q_t_old q_t_saved q_t_input q_t_output q_t_live q_t_weight q_t_measure q_t_rank t_thrown t_oldMany t_savedSet t_inputMany t_outputMany t_errorCode t_errorPosition t_top v3_4 t_round t_loudest t_textEnd t_kind t_from t_to t_value t_fault t_faultAt t_came_5 t_now t_planned) := hD
    refine lv_aload_n hx hb dX6_plays_92 rfl (lv_at hl 0 rfl) ?_
    refine lv_iconst (v := (0 : Int32)) hx hb dX6_plays_93 (by decide) ?_
    refine va_put (D := D) (ci := 6) (v := .int (0 : Int32)) (ty := .int) (C := RX6) (T := TX6) (N := 31) hx hb hts hinX6 tyX6 tyX6_ok nmX6 hown hK hP hD hS 0 rfl rfl 22 (by decide) k118 (fun _ h9 => h9) rfl (by decide +kernel) rfl rfl (Nat.le_of_ble_eq_true rfl) dX6_plays_94 (fun H locs hP hD hS => ?_)
    have hP : va_P D vwCl (wd_X6_plays cI cZ cB cG q_t q_t_came q_t_now q_t_planned q_t_keys q_t_aside q_t_old q_t_saved q_t_input q_t_output q_t_live q_t_weight q_t_measure q_t_rank t_thrown t_oldMany t_savedSet t_inputMany t_outputMany t_errorCode t_errorPosition t_top v3_4 (0 : Int32) t_loudest t_textEnd t_kind t_from t_to t_value t_fault t_faultAt t_came_5 t_now t_planned) H := hP
    have hD : va_D A (wd_X6_plays cI cZ cB cG q_t q_t_came q_t_now q_t_planned q_t_keys q_t_aside q_t_old q_t_saved q_t_input q_t_output q_t_live q_t_weight q_t_measure q_t_rank t_thrown t_oldMany t_savedSet t_inputMany t_outputMany t_errorCode t_errorPosition t_top v3_4 (0 : Int32) t_loudest t_textEnd t_kind t_from t_to t_value t_fault t_faultAt t_came_5 t_now t_planned) := hD
    refine lv_aload_n hx hb dX6_plays_97 rfl (lv_at hl 0 rfl) ?_
    refine lv_iconst (v := (-1 : Int32)) hx hb dX6_plays_98 (by decide) ?_
    refine va_put (D := D) (ci := 6) (v := .int (-1 : Int32)) (ty := .int) (C := RX6) (T := TX6) (N := 31) hx hb hts hinX6 tyX6 tyX6_ok nmX6 hown hK hP hD hS 0 rfl rfl 23 (by decide) k121 (fun _ h9 => h9) rfl (by decide +kernel) rfl rfl (Nat.le_of_ble_eq_true rfl) dX6_plays_99 (fun H locs hP hD hS => ?_)
    have hP : va_P D vwCl (wd_X6_plays cI cZ cB cG q_t q_t_came q_t_now q_t_planned q_t_keys q_t_aside q_t_old q_t_saved q_t_input q_t_output q_t_live q_t_weight q_t_measure q_t_rank t_thrown t_oldMany t_savedSet t_inputMany t_outputMany t_errorCode t_errorPosition t_top v3_4 (0 : Int32) (-1 : Int32) t_textEnd t_kind t_from t_to t_value t_fault t_faultAt t_came_5 t_now t_planned) H := hP
    have hD : va_D A (wd_X6_plays cI cZ cB cG q_t q_t_came q_t_now q_t_planned q_t_keys q_t_aside q_t_old q_t_saved q_t_input q_t_output q_t_live q_t_weight q_t_measure q_t_rank t_thrown t_oldMany t_savedSet t_inputMany t_outputMany t_errorCode t_errorPosition t_top v3_4 (0 : Int32) (-1 : Int32) t_textEnd t_kind t_from t_to t_value t_fault t_faultAt t_came_5 t_now t_planned) := hD
    exact hret ((v3_4, (0 : Int32), (-1 : Int32), t_came_5)) hf hP hD hS dX6_plays_102
abbrev wd_X6_forces (cI cZ cB cG : ClassId) (q_t : Nat) (q_t_now : Nat) (q_t_keys : Nat) (q_t_aside : Nat) (q_t_old : Nat) (q_t_saved : Nat) (q_t_input : Nat) (q_t_output : Nat) (q_t_live : Nat) (q_t_weight : Nat) (q_t_measure : Nat) (q_t_planned : Nat) (q_t_came : Nat) (q_t_rank : Nat) (t_thrown : Int32) (t_oldMany : Int32) (t_savedSet : Int32) (t_inputMany : Int32) (t_outputMany : Int32) (t_errorCode : Int32) (t_errorPosition : Int32) (t_top : Int32) (t_ahead : Int32) (t_round : Int32) (t_loudest : Int32) (t_textEnd : Int32) (t_kind : Int32) (t_from : Int32) (t_to : Int32) (t_value : Int32) (t_fault : Int32) (t_faultAt : Int32) (t_now : (Nat → Int32)) : va_W := [(q_t, .inr (6, [.ref q_t_keys, .int t_thrown, .ref q_t_now, .ref q_t_aside, .ref q_t_old, .int t_oldMany, .ref q_t_saved, .int t_savedSet, .ref q_t_input, .int t_inputMany, .ref q_t_output, .int t_outputMany, .int t_errorCode, .int t_errorPosition, .ref q_t_live, .ref q_t_weight, .ref q_t_measure, .int t_top, .ref q_t_planned, .ref q_t_came, .ref q_t_rank, .int t_ahead, .int t_round, .int t_loudest, .int t_textEnd, .int t_kind, .int t_from, .int t_to, .int t_value, .int t_fault, .int t_faultAt])), (q_t_now, .inl (cI, 176, .inl t_now))]
def F_X6_forces_9 (v2 : Int32) (v3 : Int32) (t_now : (Nat → Int32)) (K0 : Int32 → Int32 → Int32 → Prop) (rec : Int32 → Int32 → Int32 → Prop) (v4 : Int32) (v5 : Int32) (v6 : Int32) : Prop := (((t_now 1) ≤ v6 → (K0 v4 v5 v6)) ∧ (¬ ((t_now 1) ≤ v6) → (vp_in (((44 : Int32) + v6)) 176 ∧ ((¬ (t_now (((44 : Int32) + v6)).toNatClampNeg) = v2 → (rec v4 v5 ((v6 + (1 : Int32))))) ∧ ((t_now (((44 : Int32) + v6)).toNatClampNeg) = v2 → (vp_in (((105 : Int32) + v6)) 176 ∧ (wp_X6_has v3 ((t_now (((105 : Int32) + v6)).toNatClampNeg)) (fun r_2 => ((r_2 = (0 : Int32) → (rec ((v4 + (1 : Int32))) ((v5 + (0 : Int32))) ((v6 + (1 : Int32))))) ∧ (¬ (r_2 = (0 : Int32)) → (rec ((v4 + (1 : Int32))) ((v5 + (1 : Int32))) ((v6 + (1 : Int32))))))))))))))
def wp_X6_forces (a1 : Int32) (a2 : Int32) (a3 : Int32) (t_now : (Nat → Int32)) (post : Int32 → Prop) : Prop := (∃ n, fx3 (F_X6_forces_9 a2 a3 t_now (fun v4_3 v5_4 v6_5 => (vp_in (((4 : Int32) + a2)) 176 ∧ ((¬ (t_now (((4 : Int32) + a2)).toNatClampNeg) = a1 → ((v4_3 ≤ (0 : Int32) → (post (0 : Int32))) ∧ (¬ (v4_3 ≤ (0 : Int32)) → ((¬ v5_4 = v4_3 → (post (0 : Int32))) ∧ (v5_4 = v4_3 → (post (1 : Int32))))))) ∧ ((t_now (((4 : Int32) + a2)).toNatClampNeg) = a1 → ((v5_4 ≤ (0 : Int32) → (post (0 : Int32))) ∧ (¬ (v5_4 ≤ (0 : Int32)) → (post (1 : Int32))))))))) n (0 : Int32) (0 : Int32) (0 : Int32))
abbrev rm_X6_forces : Room := { frames := 2, cells := 0, slots := 0, locals := 101 }
theorem in_X6_forces_X6 : ∀ w ∈ u_ws RX6 TX6 31, w ∈ wsX6_forces := by decide +kernel
theorem k_X6_forces_13 : Cond.fieldLink RX6 13 "ParityGameModel" "now" "[I" ∈ wsX6_forces := by decide +kernel
set_option maxHeartbeats 40000000 in
set_option maxRecDepth 100000 in
theorem c_X6_forces (l : Launch) (D : va_G) (X : gX) (cI cZ cB cG : ClassId) (sz : Nat) (q_t : Nat) (q_t_now : Nat) (q_t_keys : Nat) (q_t_aside : Nat) (q_t_old : Nat) (q_t_saved : Nat) (q_t_input : Nat) (q_t_output : Nat) (q_t_live : Nat) (q_t_weight : Nat) (q_t_measure : Nat) (q_t_planned : Nat) (q_t_came : Nat) (q_t_rank : Nat) (a1 : Int32) (a2 : Int32) (a3 : Int32) (t_thrown : Int32) (t_oldMany : Int32) (t_savedSet : Int32) (t_inputMany : Int32) (t_outputMany : Int32) (t_errorCode : Int32) (t_errorPosition : Int32) (t_top : Int32) (t_ahead : Int32) (t_round : Int32) (t_loudest : Int32) (t_textEnd : Int32) (t_kind : Int32) (t_from : Int32) (t_to : Int32) (t_value : Int32) (t_fault : Int32) (t_faultAt : Int32) (t_now : (Nat → Int32)) (post : Int32 → Prop) (hf : wp_X6_forces a1 a2 a3 t_now post) : Met l yX6_forces wsX6_forces rm_X6_forces (gP D X (gT cI cZ cB cG) sz [.ref q_t, .int a1, .int a2, .int a3] (wd_X6_forces cI cZ cB cG q_t q_t_now q_t_keys q_t_aside q_t_old q_t_saved q_t_input q_t_output q_t_live q_t_weight q_t_measure q_t_planned q_t_came q_t_rank t_thrown t_oldMany t_savedSet t_inputMany t_outputMany t_errorCode t_errorPosition t_top t_ahead t_round t_loudest t_textEnd t_kind t_from t_to t_value t_fault t_faultAt t_now)) (va_Qi (fun (r : Int32) (u : Unit) => narrow .boolean (.int r) = .int r ∧ post r) (fun u t => gB D (gT cI cZ cB cG) (va_A (wd_X6_forces cI cZ cB cG q_t q_t_now q_t_keys q_t_aside q_t_old q_t_saved q_t_input q_t_output q_t_live q_t_weight q_t_measure q_t_planned q_t_came q_t_rank t_thrown t_oldMany t_savedSet t_inputMany t_outputMany t_errorCode t_errorPosition t_top t_ahead t_round t_loudest t_textEnd t_kind t_from t_to t_value t_fault t_faultAt t_now) sz) (wd_X6_forces cI cZ cB cG q_t q_t_now q_t_keys q_t_aside q_t_old q_t_saved q_t_input q_t_output q_t_live q_t_weight q_t_measure q_t_planned q_t_came q_t_rank t_thrown t_oldMany t_savedSet t_inputMany t_outputMany t_errorCode t_errorPosition t_top t_ahead t_round t_loudest t_textEnd t_kind t_from t_to t_value t_fault t_faultAt t_now) t) (va_A (wd_X6_forces cI cZ cB cG q_t q_t_now q_t_keys q_t_aside q_t_old q_t_saved q_t_input q_t_output q_t_live q_t_weight q_t_measure q_t_planned q_t_came q_t_rank t_thrown t_oldMany t_savedSet t_inputMany t_outputMany t_errorCode t_errorPosition t_top t_ahead t_round t_loudest t_textEnd t_kind t_from t_to t_value t_fault t_faultAt t_now) sz)) 0 0 (va_A (wd_X6_forces cI cZ cB cG q_t q_t_now q_t_keys q_t_aside q_t_old q_t_saved q_t_input q_t_output q_t_live q_t_weight q_t_measure q_t_planned q_t_came q_t_rank t_thrown t_oldMany t_savedSet t_inputMany t_outputMany t_errorCode t_errorPosition t_top t_ahead t_round t_loudest t_textEnd t_kind t_from t_to t_value t_fault t_faultAt t_now) sz) := by
  refine g_ofWz (cc := cX6_forces) (maxL := 7) (by decide +kernel) (Nat.le_of_ble_eq_true rfl) rfl ?_
  intro p e s m args below meth c A Q hx hb hml hown hts hA hK hE H hP hD hS ls hl hret
  have hinX6 := in_X6_forces_X6
  have k13 := hts _ k_X6_forces_13
  have hl : lv_has ls 7 [(0, .ref q_t), (1, .int a1), (2, .int a2), (3, .int a3)] := hl
  have L9 : ∀ (v1 : Int32) (v2 : Int32) (v3 : Int32) (K0 : Int32 → Int32 → Int32 → Prop) (_ : ∀ (v4 : Int32) (v5 : Int32) (v6 : Int32) (H : Heap) (locs : List Loc) (ls : Array Slot), K0 v4 v5 v6 → va_P D vwCl (wd_X6_forces cI cZ cB cG q_t q_t_now q_t_keys q_t_aside q_t_old q_t_saved q_t_input q_t_output q_t_live q_t_weight q_t_measure q_t_planned q_t_came q_t_rank t_thrown t_oldMany t_savedSet t_inputMany t_outputMany t_errorCode t_errorPosition t_top t_ahead t_round t_loudest t_textEnd t_kind t_from t_to t_value t_fault t_faultAt t_now) H → va_D A (wd_X6_forces cI cZ cB cG q_t q_t_now q_t_keys q_t_aside q_t_old q_t_saved q_t_input q_t_output q_t_live q_t_weight q_t_measure q_t_planned q_t_came q_t_rank t_thrown t_oldMany t_savedSet t_inputMany t_outputMany t_errorCode t_errorPosition t_top t_ahead t_round t_loudest t_textEnd t_kind t_from t_to t_value t_fault t_faultAt t_now) → va_S A s.heap H locs → lv_has ls 7 [(0, .ref q_t), (1, .int v1), (2, .int v2), (4, .int v4), (5, .int v5)] → W p l e (rm_X6_forces) s m args below meth c H locs 0 0 Q (F0 m 70 ls []))  (n : Nat) (v4 : Int32) (v5 : Int32) (v6 : Int32) (H : Heap) (locs : List Loc) (ls : Array Slot), fx3 (F_X6_forces_9 v2 v3 t_now K0) n v4 v5 v6 → va_P D vwCl (wd_X6_forces cI cZ cB cG q_t q_t_now q_t_keys q_t_aside q_t_old q_t_saved q_t_input q_t_output q_t_live q_t_weight q_t_measure q_t_planned q_t_came q_t_rank t_thrown t_oldMany t_savedSet t_inputMany t_outputMany t_errorCode t_errorPosition t_top t_ahead t_round t_loudest t_textEnd t_kind t_from t_to t_value t_fault t_faultAt t_now) H → va_D A (wd_X6_forces cI cZ cB cG q_t q_t_now q_t_keys q_t_aside q_t_old q_t_saved q_t_input q_t_output q_t_live q_t_weight q_t_measure q_t_planned q_t_came q_t_rank t_thrown t_oldMany t_savedSet t_inputMany t_outputMany t_errorCode t_errorPosition t_top t_ahead t_round t_loudest t_textEnd t_kind t_from t_to t_value t_fault t_faultAt t_now) → va_S A s.heap H locs → lv_has ls 7 [(0, .ref q_t), (1, .int v1), (2, .int v2), (3, .int v3), (4, .int v4), (5, .int v5), (6, .int v6)] → W p l e (rm_X6_forces) s m args below meth c H locs 0 0 Q (F0 m 9 ls []) := by
    intro v1 v2 v3 K0 hK0 n
    induction n with
    | zero => intro v4 v5 v6 H locs ls hf; exact (hf : False).elim
    | succ n ih =>
      intro v4 v5 v6 H locs ls hf hP hD hS hl
      have hf : F_X6_forces_9 v2 v3 t_now K0 (fx3 (F_X6_forces_9 v2 v3 t_now K0) n) v4 v5 v6 := hf
      unfold F_X6_forces_9 at hf
      refine lv_iload hx hb dX6_forces_9 (lv_at hl 6 rfl) ?_
      refine lv_aload_n hx hb dX6_forces_11 rfl (lv_at hl 0 rfl) ?_
      refine va_get (D := D) (ci := 6) (v := .ref q_t_now) (C := RX6) (T := TX6) (N := 31) hx hb hts hinX6 hown hK hP 0 rfl rfl 2 (by decide) k13 (fun _ h9 => h9) rfl dX6_forces_12 ?_
      refine lv_iconst (v := (1 : Int32)) hx hb dX6_forces_15 (by decide) ?_
      refine va_iald hx hb hK hP 1 0 rfl rfl (n := 176) (by unfold vp_in; decide) dX6_forces_16 ?_
      refine lv_icmp_ge (tgt := 70) hx hb dX6_forces_17 (by decide) (fun hc => ?_) (fun hc => ?_)
      · have hf := hf.1 hc
        exact hK0 _ _ _ _ _ _ hf hP hD hS (lv_sub hl [0, 1, 2, 4, 5] rfl)
      · have hf := hf.2 hc
        refine lv_aload_n hx hb dX6_forces_20 rfl (lv_at hl 0 rfl) ?_
        refine va_get (D := D) (ci := 6) (v := .ref q_t_now) (C := RX6) (T := TX6) (N := 31) hx hb hts hinX6 hown hK hP 0 rfl rfl 2 (by decide) k13 (fun _ h9 => h9) rfl dX6_forces_21 ?_
        refine lv_bipush (v := (44 : Int32)) hx hb dX6_forces_24 (by decide) ?_
        refine lv_iload hx hb dX6_forces_26 (lv_at hl 6 rfl) ?_
        refine lv_iadd hx hb dX6_forces_28 ?_
        refine va_iald hx hb hK hP 1 0 rfl rfl (n := 176) hf.1 dX6_forces_29 ?_
        have hf := hf.2
        refine lv_iload_n hx hb dX6_forces_30 rfl (lv_at hl 2 rfl) ?_
        refine lv_icmp_ne (tgt := 64) hx hb dX6_forces_31 (by decide) (fun hc => ?_) (fun hc => ?_)
        · have hf := hf.1 hc
          refine lv_iinc (v := (v6 + (1 : Int32))) (lv' := [(6, .int ((v6 + (1 : Int32)))), (0, .ref q_t), (1, .int v1), (2, .int v2), (3, .int v3), (4, .int v4), (5, .int v5)]) hx hb dX6_forces_64 hl (k := 6) rfl rfl (by decide) rfl (fun ls hl => ?_)
          refine lv_goto (tgt := 9) hx hb dX6_forces_67 (by decide) ?_
          exact ih _ _ _ _ _ _ hf hP hD hS (lv_sub hl [1, 2, 3, 4, 5, 6, 0] rfl)
        · have hf := hf.2 hc
          refine lv_iinc (v := (v4 + (1 : Int32))) (lv' := [(4, .int ((v4 + (1 : Int32)))), (0, .ref q_t), (1, .int v1), (2, .int v2), (3, .int v3), (5, .int v5), (6, .int v6)]) hx hb dX6_forces_34 hl (k := 4) rfl rfl (by decide) rfl (fun ls hl => ?_)
          refine lv_iload hx hb dX6_forces_37 (lv_at hl 5 rfl) ?_
          refine lv_iload_n hx hb dX6_forces_39 rfl (lv_at hl 4 rfl) ?_
          refine lv_aload_n hx hb dX6_forces_40 rfl (lv_at hl 1 rfl) ?_
          refine va_get (D := D) (ci := 6) (v := .ref q_t_now) (C := RX6) (T := TX6) (N := 31) hx hb hts hinX6 hown hK hP 0 rfl rfl 2 (by decide) k13 (fun _ h9 => h9) rfl dX6_forces_41 ?_
          refine lv_bipush (v := (105 : Int32)) hx hb dX6_forces_44 (by decide) ?_
          refine lv_iload hx hb dX6_forces_46 (lv_at hl 6 rfl) ?_
          refine lv_iadd hx hb dX6_forces_48 ?_
          refine va_iald hx hb hK hP 1 0 rfl rfl (n := 176) hf.1 dX6_forces_49 ?_
          have hf := hf.2
          have hPc := hP.sub (ws' := ([] : va_W)) [] rfl
          have hDc := hD.sub (ws' := ([] : va_W)) [] (by decide +kernel) rfl
          have hFc := va_free (wc := ([] : va_W)) hD hS hA [] rfl
          refine va_calli (va_runS (As := [.int v3, .int ((t_now (((105 : Int32) + v6)).toNatClampNeg))]) (rest := [.int v5]) ⟨hx, hb, hml, hown, hts⟩ (c_X6_has l D X cI cZ cB cG H.size v3 ((t_now (((105 : Int32) + v6)).toNatClampNeg)) _ hf) (va_cwS 2 hts gX6_forces_X6_has rfl rfl rfl (by decide +kernel) ⟨Nat.le_of_ble_eq_true rfl, Nat.le_of_ble_eq_true rfl⟩) ⟨g_blind, fun U hU hW => g_side hU hW hPc hK hDc hE hS hFc⟩ rfl rfl hl.1 rfl (lv_room (Nat.le_of_ble_eq_true rfl)) dX6_forces_50 ⟨Nat.zero_le _, Nat.zero_le _⟩) hS (fun q _ h => hFc q h) hFc (fun r_2 u t H1 locs ht hvm hw hB hz1 hk1 hS => ?_)
          obtain ⟨hP1, hK1, hD1⟩ := hB
          rw [ht] at hP1
          obtain ⟨hP, hD⟩ := g_back (wc := ([] : va_W)) (w1 := ([] : va_W)) hP hD [] rfl rfl hk1 hP1
          have hP : va_P D vwCl (wd_X6_forces cI cZ cB cG q_t q_t_now q_t_keys q_t_aside q_t_old q_t_saved q_t_input q_t_output q_t_live q_t_weight q_t_measure q_t_planned q_t_came q_t_rank t_thrown t_oldMany t_savedSet t_inputMany t_outputMany t_errorCode t_errorPosition t_top t_ahead t_round t_loudest t_textEnd t_kind t_from t_to t_value t_fault t_faultAt t_now) H1 := hP
          have hD : va_D A (wd_X6_forces cI cZ cB cG q_t q_t_now q_t_keys q_t_aside q_t_old q_t_saved q_t_input q_t_output q_t_live q_t_weight q_t_measure q_t_planned q_t_came q_t_rank t_thrown t_oldMany t_savedSet t_inputMany t_outputMany t_errorCode t_errorPosition t_top t_ahead t_round t_loudest t_textEnd t_kind t_from t_to t_value t_fault t_faultAt t_now) := hD
          obtain ⟨hn_r_2, hw⟩ := hw
          have hf := hw
          generalize H1 = H at hP hS ⊢
          refine lv_if_eq (tgt := 60) hx hb dX6_forces_53 (by decide) (fun hc => ?_) (fun hc => ?_)
          · have hf := hf.1 hc
            refine lv_iconst (v := (0 : Int32)) hx hb dX6_forces_60 (by decide) ?_
            refine lv_iadd hx hb dX6_forces_61 ?_
            refine lv_istore (lv' := [(5, .int ((v5 + (0 : Int32)))), (4, .int ((v4 + (1 : Int32)))), (0, .ref q_t), (1, .int v1), (2, .int v2), (3, .int v3), (6, .int v6)]) hx hb dX6_forces_62 hl (by decide) rfl (fun ls hl => ?_)
            refine lv_iinc (v := (v6 + (1 : Int32))) (lv' := [(6, .int ((v6 + (1 : Int32)))), (5, .int ((v5 + (0 : Int32)))), (4, .int ((v4 + (1 : Int32)))), (0, .ref q_t), (1, .int v1), (2, .int v2), (3, .int v3)]) hx hb dX6_forces_64 hl (k := 6) rfl rfl (by decide) rfl (fun ls hl => ?_)
            refine lv_goto (tgt := 9) hx hb dX6_forces_67 (by decide) ?_
            exact ih _ _ _ _ _ _ hf hP hD hS (lv_sub hl [3, 4, 5, 6, 2, 1, 0] rfl)
          · have hf := hf.2 hc
            refine lv_iconst (v := (1 : Int32)) hx hb dX6_forces_56 (by decide) ?_
            refine lv_goto (tgt := 61) hx hb dX6_forces_57 (by decide) ?_
            refine lv_iadd hx hb dX6_forces_61 ?_
            refine lv_istore (lv' := [(5, .int ((v5 + (1 : Int32)))), (4, .int ((v4 + (1 : Int32)))), (0, .ref q_t), (1, .int v1), (2, .int v2), (3, .int v3), (6, .int v6)]) hx hb dX6_forces_62 hl (by decide) rfl (fun ls hl => ?_)
            refine lv_iinc (v := (v6 + (1 : Int32))) (lv' := [(6, .int ((v6 + (1 : Int32)))), (5, .int ((v5 + (1 : Int32)))), (4, .int ((v4 + (1 : Int32)))), (0, .ref q_t), (1, .int v1), (2, .int v2), (3, .int v3)]) hx hb dX6_forces_64 hl (k := 6) rfl rfl (by decide) rfl (fun ls hl => ?_)
            refine lv_goto (tgt := 9) hx hb dX6_forces_67 (by decide) ?_
            exact ih _ _ _ _ _ _ hf hP hD hS (lv_sub hl [3, 4, 5, 6, 2, 1, 0] rfl)
  unfold wp_X6_forces at hf
  refine lv_iconst (v := (0 : Int32)) hx hb dX6_forces_0 (by decide) ?_
  refine lv_istore (lv' := [(4, .int (0 : Int32)), (0, .ref q_t), (1, .int a1), (2, .int a2), (3, .int a3)]) hx hb dX6_forces_1 hl (by decide) rfl (fun ls hl => ?_)
  refine lv_iconst (v := (0 : Int32)) hx hb dX6_forces_3 (by decide) ?_
  refine lv_istore (lv' := [(5, .int (0 : Int32)), (4, .int (0 : Int32)), (0, .ref q_t), (1, .int a1), (2, .int a2), (3, .int a3)]) hx hb dX6_forces_4 hl (by decide) rfl (fun ls hl => ?_)
  refine lv_iconst (v := (0 : Int32)) hx hb dX6_forces_6 (by decide) ?_
  refine lv_istore (lv' := [(6, .int (0 : Int32)), (5, .int (0 : Int32)), (4, .int (0 : Int32)), (0, .ref q_t), (1, .int a1), (2, .int a2), (3, .int a3)]) hx hb dX6_forces_7 hl (by decide) rfl (fun ls hl => ?_)
  obtain ⟨n, hf⟩ := hf
  refine L9 a1 a2 a3 _ ?_  n _ _ _ _ _ _ hf hP hD hS (lv_sub hl [3, 4, 5, 6, 2, 1, 0] rfl)
  intro v4_3 v5_4 v6_5 H locs ls hf hP hD hS hl
  refine lv_aload_n hx hb dX6_forces_70 rfl (lv_at hl 0 rfl) ?_
  refine va_get (D := D) (ci := 6) (v := .ref q_t_now) (C := RX6) (T := TX6) (N := 31) hx hb hts hinX6 hown hK hP 0 rfl rfl 2 (by decide) k13 (fun _ h9 => h9) rfl dX6_forces_71 ?_
  refine lv_iconst (v := (4 : Int32)) hx hb dX6_forces_74 (by decide) ?_
  refine lv_iload_n hx hb dX6_forces_75 rfl (lv_at hl 2 rfl) ?_
  refine lv_iadd hx hb dX6_forces_76 ?_
  refine va_iald hx hb hK hP 1 0 rfl rfl (n := 176) hf.1 dX6_forces_77 ?_
  have hf := hf.2
  refine lv_iload_n hx hb dX6_forces_78 rfl (lv_at hl 1 rfl) ?_
  refine lv_icmp_ne (tgt := 95) hx hb dX6_forces_79 (by decide) (fun hc => ?_) (fun hc => ?_)
  · have hf := hf.1 hc
    refine lv_iload hx hb dX6_forces_95 (lv_at hl 3 rfl) ?_
    refine lv_if_le (tgt := 111) hx hb dX6_forces_97 (by decide) (fun hc => ?_) (fun hc => ?_)
    · have hf := hf.1 hc
      refine lv_iconst (v := (0 : Int32)) hx hb dX6_forces_111 (by decide) ?_
      exact hret (0 : Int32) () (by decide) hf hP hD hS dX6_forces_112
    · have hf := hf.2 hc
      refine lv_iload hx hb dX6_forces_100 (lv_at hl 4 rfl) ?_
      refine lv_iload hx hb dX6_forces_102 (lv_at hl 3 rfl) ?_
      refine lv_icmp_ne (tgt := 111) hx hb dX6_forces_104 (by decide) (fun hc => ?_) (fun hc => ?_)
      · have hf := hf.1 hc
        refine lv_iconst (v := (0 : Int32)) hx hb dX6_forces_111 (by decide) ?_
        exact hret (0 : Int32) () (by decide) hf hP hD hS dX6_forces_112
      · have hf := hf.2 hc
        refine lv_iconst (v := (1 : Int32)) hx hb dX6_forces_107 (by decide) ?_
        refine lv_goto (tgt := 112) hx hb dX6_forces_108 (by decide) ?_
        exact hret (1 : Int32) () (by decide) hf hP hD hS dX6_forces_112
  · have hf := hf.2 hc
    refine lv_iload hx hb dX6_forces_82 (lv_at hl 4 rfl) ?_
    refine lv_if_le (tgt := 91) hx hb dX6_forces_84 (by decide) (fun hc => ?_) (fun hc => ?_)
    · have hf := hf.1 hc
      refine lv_iconst (v := (0 : Int32)) hx hb dX6_forces_91 (by decide) ?_
      refine lv_goto (tgt := 112) hx hb dX6_forces_92 (by decide) ?_
      exact hret (0 : Int32) () (by decide) hf hP hD hS dX6_forces_112
    · have hf := hf.2 hc
      refine lv_iconst (v := (1 : Int32)) hx hb dX6_forces_87 (by decide) ?_
      refine lv_goto (tgt := 112) hx hb dX6_forces_88 (by decide) ?_
      exact hret (1 : Int32) () (by decide) hf hP hD hS dX6_forces_112
abbrev wd_X6_forcing (cI cZ cB cG : ClassId) (q_t : Nat) (q_t_now : Nat) (q_t_keys : Nat) (q_t_aside : Nat) (q_t_old : Nat) (q_t_saved : Nat) (q_t_input : Nat) (q_t_output : Nat) (q_t_live : Nat) (q_t_weight : Nat) (q_t_measure : Nat) (q_t_planned : Nat) (q_t_came : Nat) (q_t_rank : Nat) (t_thrown : Int32) (t_oldMany : Int32) (t_savedSet : Int32) (t_inputMany : Int32) (t_outputMany : Int32) (t_errorCode : Int32) (t_errorPosition : Int32) (t_top : Int32) (t_ahead : Int32) (t_round : Int32) (t_loudest : Int32) (t_textEnd : Int32) (t_kind : Int32) (t_from : Int32) (t_to : Int32) (t_value : Int32) (t_fault : Int32) (t_faultAt : Int32) (t_now : (Nat → Int32)) : va_W := [(q_t, .inr (6, [.ref q_t_keys, .int t_thrown, .ref q_t_now, .ref q_t_aside, .ref q_t_old, .int t_oldMany, .ref q_t_saved, .int t_savedSet, .ref q_t_input, .int t_inputMany, .ref q_t_output, .int t_outputMany, .int t_errorCode, .int t_errorPosition, .ref q_t_live, .ref q_t_weight, .ref q_t_measure, .int t_top, .ref q_t_planned, .ref q_t_came, .ref q_t_rank, .int t_ahead, .int t_round, .int t_loudest, .int t_textEnd, .int t_kind, .int t_from, .int t_to, .int t_value, .int t_fault, .int t_faultAt])), (q_t_now, .inl (cI, 176, .inl t_now))]
def F_X6_forcing_5 (v1 : Int32) (v2 : Int32) (t_now : (Nat → Int32)) (K0 : Int32 → Int32 → Prop) (rec : Int32 → Int32 → Prop) (v3 : Int32) (v4 : Int32) : Prop := (((t_now 0) ≤ v4 → (K0 v3 v4)) ∧ (¬ ((t_now 0) ≤ v4) → (wp_X6_forces v1 v4 v2 t_now (fun r_2 => ((r_2 = (0 : Int32) → (rec ((v3 ||| (0 : Int32))) ((v4 + (1 : Int32))))) ∧ (¬ (r_2 = (0 : Int32)) → (rec ((v3 ||| ((1 : Int32) <<< (v4 &&& 31)))) ((v4 + (1 : Int32))))))))))
def wp_X6_forcing (a1 : Int32) (a2 : Int32) (t_now : (Nat → Int32)) (post : Int32 → Prop) : Prop := (∃ n, fx2 (F_X6_forcing_5 a1 a2 t_now (fun v3_3 v4_4 => (post v3_3))) n (0 : Int32) (0 : Int32))
abbrev rm_X6_forcing : Room := { frames := 3, cells := 0, slots := 0, locals := 127 }
theorem in_X6_forcing_X6 : ∀ w ∈ u_ws RX6 TX6 31, w ∈ wsX6_forcing := by decide +kernel
theorem k_X6_forcing_13 : Cond.fieldLink RX6 13 "ParityGameModel" "now" "[I" ∈ wsX6_forcing := by decide +kernel
set_option maxHeartbeats 40000000 in
set_option maxRecDepth 100000 in
theorem c_X6_forcing (l : Launch) (D : va_G) (X : gX) (cI cZ cB cG : ClassId) (sz : Nat) (q_t : Nat) (q_t_now : Nat) (q_t_keys : Nat) (q_t_aside : Nat) (q_t_old : Nat) (q_t_saved : Nat) (q_t_input : Nat) (q_t_output : Nat) (q_t_live : Nat) (q_t_weight : Nat) (q_t_measure : Nat) (q_t_planned : Nat) (q_t_came : Nat) (q_t_rank : Nat) (a1 : Int32) (a2 : Int32) (t_thrown : Int32) (t_oldMany : Int32) (t_savedSet : Int32) (t_inputMany : Int32) (t_outputMany : Int32) (t_errorCode : Int32) (t_errorPosition : Int32) (t_top : Int32) (t_ahead : Int32) (t_round : Int32) (t_loudest : Int32) (t_textEnd : Int32) (t_kind : Int32) (t_from : Int32) (t_to : Int32) (t_value : Int32) (t_fault : Int32) (t_faultAt : Int32) (t_now : (Nat → Int32)) (post : Int32 → Prop) (hf : wp_X6_forcing a1 a2 t_now post) : Met l yX6_forcing wsX6_forcing rm_X6_forcing (gP D X (gT cI cZ cB cG) sz [.ref q_t, .int a1, .int a2] (wd_X6_forcing cI cZ cB cG q_t q_t_now q_t_keys q_t_aside q_t_old q_t_saved q_t_input q_t_output q_t_live q_t_weight q_t_measure q_t_planned q_t_came q_t_rank t_thrown t_oldMany t_savedSet t_inputMany t_outputMany t_errorCode t_errorPosition t_top t_ahead t_round t_loudest t_textEnd t_kind t_from t_to t_value t_fault t_faultAt t_now)) (va_Qi (fun (r : Int32) (u : Unit) => post r) (fun u t => gB D (gT cI cZ cB cG) (va_A (wd_X6_forcing cI cZ cB cG q_t q_t_now q_t_keys q_t_aside q_t_old q_t_saved q_t_input q_t_output q_t_live q_t_weight q_t_measure q_t_planned q_t_came q_t_rank t_thrown t_oldMany t_savedSet t_inputMany t_outputMany t_errorCode t_errorPosition t_top t_ahead t_round t_loudest t_textEnd t_kind t_from t_to t_value t_fault t_faultAt t_now) sz) (wd_X6_forcing cI cZ cB cG q_t q_t_now q_t_keys q_t_aside q_t_old q_t_saved q_t_input q_t_output q_t_live q_t_weight q_t_measure q_t_planned q_t_came q_t_rank t_thrown t_oldMany t_savedSet t_inputMany t_outputMany t_errorCode t_errorPosition t_top t_ahead t_round t_loudest t_textEnd t_kind t_from t_to t_value t_fault t_faultAt t_now) t) (va_A (wd_X6_forcing cI cZ cB cG q_t q_t_now q_t_keys q_t_aside q_t_old q_t_saved q_t_input q_t_output q_t_live q_t_weight q_t_measure q_t_planned q_t_came q_t_rank t_thrown t_oldMany t_savedSet t_inputMany t_outputMany t_errorCode t_errorPosition t_top t_ahead t_round t_loudest t_textEnd t_kind t_from t_to t_value t_fault t_faultAt t_now) sz)) 0 0 (va_A (wd_X6_forcing cI cZ cB cG q_t q_t_now q_t_keys q_t_aside q_t_old q_t_saved q_t_input q_t_output q_t_live q_t_weight q_t_measure q_t_planned q_t_came q_t_rank t_thrown t_oldMany t_savedSet t_inputMany t_outputMany t_errorCode t_errorPosition t_top t_ahead t_round t_loudest t_textEnd t_kind t_from t_to t_value t_fault t_faultAt t_now) sz) := by
  refine g_ofWi (cc := cX6_forcing) (maxL := 5) (by decide +kernel) (Nat.le_of_ble_eq_true rfl) rfl ?_
  intro p e s m args below meth c A Q hx hb hml hown hts hA hK hE H hP hD hS ls hl hret
  have hinX6 := in_X6_forcing_X6
  have k13 := hts _ k_X6_forcing_13
  have hl : lv_has ls 5 [(0, .ref q_t), (1, .int a1), (2, .int a2)] := hl
  have L5 : ∀ (v1 : Int32) (v2 : Int32) (K0 : Int32 → Int32 → Prop) (_ : ∀ (v3 : Int32) (v4 : Int32) (H : Heap) (locs : List Loc) (ls : Array Slot), K0 v3 v4 → va_P D vwCl (wd_X6_forcing cI cZ cB cG q_t q_t_now q_t_keys q_t_aside q_t_old q_t_saved q_t_input q_t_output q_t_live q_t_weight q_t_measure q_t_planned q_t_came q_t_rank t_thrown t_oldMany t_savedSet t_inputMany t_outputMany t_errorCode t_errorPosition t_top t_ahead t_round t_loudest t_textEnd t_kind t_from t_to t_value t_fault t_faultAt t_now) H → va_D A (wd_X6_forcing cI cZ cB cG q_t q_t_now q_t_keys q_t_aside q_t_old q_t_saved q_t_input q_t_output q_t_live q_t_weight q_t_measure q_t_planned q_t_came q_t_rank t_thrown t_oldMany t_savedSet t_inputMany t_outputMany t_errorCode t_errorPosition t_top t_ahead t_round t_loudest t_textEnd t_kind t_from t_to t_value t_fault t_faultAt t_now) → va_S A s.heap H locs → lv_has ls 5 [(3, .int v3)] → W p l e (rm_X6_forcing) s m args below meth c H locs 0 0 Q (F0 m 44 ls []))  (n : Nat) (v3 : Int32) (v4 : Int32) (H : Heap) (locs : List Loc) (ls : Array Slot), fx2 (F_X6_forcing_5 v1 v2 t_now K0) n v3 v4 → va_P D vwCl (wd_X6_forcing cI cZ cB cG q_t q_t_now q_t_keys q_t_aside q_t_old q_t_saved q_t_input q_t_output q_t_live q_t_weight q_t_measure q_t_planned q_t_came q_t_rank t_thrown t_oldMany t_savedSet t_inputMany t_outputMany t_errorCode t_errorPosition t_top t_ahead t_round t_loudest t_textEnd t_kind t_from t_to t_value t_fault t_faultAt t_now) H → va_D A (wd_X6_forcing cI cZ cB cG q_t q_t_now q_t_keys q_t_aside q_t_old q_t_saved q_t_input q_t_output q_t_live q_t_weight q_t_measure q_t_planned q_t_came q_t_rank t_thrown t_oldMany t_savedSet t_inputMany t_outputMany t_errorCode t_errorPosition t_top t_ahead t_round t_loudest t_textEnd t_kind t_from t_to t_value t_fault t_faultAt t_now) → va_S A s.heap H locs → lv_has ls 5 [(0, .ref q_t), (1, .int v1), (2, .int v2), (3, .int v3), (4, .int v4)] → W p l e (rm_X6_forcing) s m args below meth c H locs 0 0 Q (F0 m 5 ls []) := by
    intro v1 v2 K0 hK0 n
    induction n with
    | zero => intro v3 v4 H locs ls hf; exact (hf : False).elim
    | succ n ih =>
      intro v3 v4 H locs ls hf hP hD hS hl
      have hf : F_X6_forcing_5 v1 v2 t_now K0 (fx2 (F_X6_forcing_5 v1 v2 t_now K0) n) v3 v4 := hf
      unfold F_X6_forcing_5 at hf
      refine lv_iload hx hb dX6_forcing_5 (lv_at hl 4 rfl) ?_
      refine lv_aload_n hx hb dX6_forcing_7 rfl (lv_at hl 0 rfl) ?_
      refine va_get (D := D) (ci := 6) (v := .ref q_t_now) (C := RX6) (T := TX6) (N := 31) hx hb hts hinX6 hown hK hP 0 rfl rfl 2 (by decide) k13 (fun _ h9 => h9) rfl dX6_forcing_8 ?_
      refine lv_iconst (v := (0 : Int32)) hx hb dX6_forcing_11 (by decide) ?_
      refine va_iald hx hb hK hP 1 0 rfl rfl (n := 176) (by unfold vp_in; decide) dX6_forcing_12 ?_
      refine lv_icmp_ge (tgt := 44) hx hb dX6_forcing_13 (by decide) (fun hc => ?_) (fun hc => ?_)
      · have hf := hf.1 hc
        exact hK0 _ _ _ _ _ hf hP hD hS (lv_sub hl [3] rfl)
      · have hf := hf.2 hc
        refine lv_iload_n hx hb dX6_forcing_16 rfl (lv_at hl 3 rfl) ?_
        refine lv_aload_n hx hb dX6_forcing_17 rfl (lv_at hl 0 rfl) ?_
        refine lv_iload_n hx hb dX6_forcing_18 rfl (lv_at hl 1 rfl) ?_
        refine lv_iload hx hb dX6_forcing_19 (lv_at hl 4 rfl) ?_
        refine lv_iload_n hx hb dX6_forcing_21 rfl (lv_at hl 2 rfl) ?_
        have hPc := hP.sub (ws' := (wd_X6_forces cI cZ cB cG q_t q_t_now q_t_keys q_t_aside q_t_old q_t_saved q_t_input q_t_output q_t_live q_t_weight q_t_measure q_t_planned q_t_came q_t_rank t_thrown t_oldMany t_savedSet t_inputMany t_outputMany t_errorCode t_errorPosition t_top t_ahead t_round t_loudest t_textEnd t_kind t_from t_to t_value t_fault t_faultAt t_now)) [0, 1] rfl
        have hDc := hD.sub (ws' := (wd_X6_forces cI cZ cB cG q_t q_t_now q_t_keys q_t_aside q_t_old q_t_saved q_t_input q_t_output q_t_live q_t_weight q_t_measure q_t_planned q_t_came q_t_rank t_thrown t_oldMany t_savedSet t_inputMany t_outputMany t_errorCode t_errorPosition t_top t_ahead t_round t_loudest t_textEnd t_kind t_from t_to t_value t_fault t_faultAt t_now)) [0, 1] (by decide +kernel) rfl
        have hFc := va_free (wc := (wd_X6_forces cI cZ cB cG q_t q_t_now q_t_keys q_t_aside q_t_old q_t_saved q_t_input q_t_output q_t_live q_t_weight q_t_measure q_t_planned q_t_came q_t_rank t_thrown t_oldMany t_savedSet t_inputMany t_outputMany t_errorCode t_errorPosition t_top t_ahead t_round t_loudest t_textEnd t_kind t_from t_to t_value t_fault t_faultAt t_now)) hD hS hA [0, 1] rfl
        refine va_calli (va_runV (As := [.int v1, .int v4, .int v2]) (rest := [.int v3]) ⟨hx, hb, hml, hown, hts⟩ (c_X6_forces l D X cI cZ cB cG H.size q_t q_t_now q_t_keys q_t_aside q_t_old q_t_saved q_t_input q_t_output q_t_live q_t_weight q_t_measure q_t_planned q_t_came q_t_rank v1 v4 v2 t_thrown t_oldMany t_savedSet t_inputMany t_outputMany t_errorCode t_errorPosition t_top t_ahead t_round t_loudest t_textEnd t_kind t_from t_to t_value t_fault t_faultAt t_now _ hf) (cwV 3 hts gX6_forcing_X6_forces rfl rfl rfl (by decide +kernel) ⟨Nat.le_of_ble_eq_true rfl, Nat.le_of_ble_eq_true rfl⟩) ⟨g_blind, va_recv hK hPc (ci := 6) (q0 := 0) rfl rfl, fun U hU hW => g_side hU hW hPc hK hDc hE hS hFc⟩ rfl rfl hl.1 rfl (lv_room (Nat.le_of_ble_eq_true rfl)) dX6_forcing_22 ⟨Nat.zero_le _, Nat.zero_le _⟩) hS (fun q _ h => hFc q h) hFc (fun r_2 u t H1 locs ht hvm hw hB hz1 hk1 hS => ?_)
        obtain ⟨hP1, hK1, hD1⟩ := hB
        rw [ht] at hP1
        obtain ⟨hP, hD⟩ := g_back (wc := (wd_X6_forces cI cZ cB cG q_t q_t_now q_t_keys q_t_aside q_t_old q_t_saved q_t_input q_t_output q_t_live q_t_weight q_t_measure q_t_planned q_t_came q_t_rank t_thrown t_oldMany t_savedSet t_inputMany t_outputMany t_errorCode t_errorPosition t_top t_ahead t_round t_loudest t_textEnd t_kind t_from t_to t_value t_fault t_faultAt t_now)) (w1 := (wd_X6_forces cI cZ cB cG q_t q_t_now q_t_keys q_t_aside q_t_old q_t_saved q_t_input q_t_output q_t_live q_t_weight q_t_measure q_t_planned q_t_came q_t_rank t_thrown t_oldMany t_savedSet t_inputMany t_outputMany t_errorCode t_errorPosition t_top t_ahead t_round t_loudest t_textEnd t_kind t_from t_to t_value t_fault t_faultAt t_now)) hP hD [0, 1] rfl rfl hk1 hP1
        have hP : va_P D vwCl (wd_X6_forcing cI cZ cB cG q_t q_t_now q_t_keys q_t_aside q_t_old q_t_saved q_t_input q_t_output q_t_live q_t_weight q_t_measure q_t_planned q_t_came q_t_rank t_thrown t_oldMany t_savedSet t_inputMany t_outputMany t_errorCode t_errorPosition t_top t_ahead t_round t_loudest t_textEnd t_kind t_from t_to t_value t_fault t_faultAt t_now) H1 := hP
        have hD : va_D A (wd_X6_forcing cI cZ cB cG q_t q_t_now q_t_keys q_t_aside q_t_old q_t_saved q_t_input q_t_output q_t_live q_t_weight q_t_measure q_t_planned q_t_came q_t_rank t_thrown t_oldMany t_savedSet t_inputMany t_outputMany t_errorCode t_errorPosition t_top t_ahead t_round t_loudest t_textEnd t_kind t_from t_to t_value t_fault t_faultAt t_now) := hD
        obtain ⟨hn_r_2, hw⟩ := hw
        have hf := hw
        generalize H1 = H at hP hS ⊢
        refine lv_if_eq (tgt := 35) hx hb dX6_forcing_25 (by decide) (fun hc => ?_) (fun hc => ?_)
        · have hf := hf.1 hc
          refine lv_iconst (v := (0 : Int32)) hx hb dX6_forcing_35 (by decide) ?_
          refine lv_ior hx hb dX6_forcing_36 ?_
          refine lv_istore_n (lv' := [(3, .int ((v3 ||| (0 : Int32)))), (0, .ref q_t), (1, .int v1), (2, .int v2), (4, .int v4)]) hx hb dX6_forcing_37 rfl hl (by decide) rfl (fun ls hl => ?_)
          refine lv_iinc (v := (v4 + (1 : Int32))) (lv' := [(4, .int ((v4 + (1 : Int32)))), (3, .int ((v3 ||| (0 : Int32)))), (0, .ref q_t), (1, .int v1), (2, .int v2)]) hx hb dX6_forcing_38 hl (k := 4) rfl rfl (by decide) rfl (fun ls hl => ?_)
          refine lv_goto (tgt := 5) hx hb dX6_forcing_41 (by decide) ?_
          exact ih _ _ _ _ _ hf hP hD hS (lv_sub hl [2, 3, 4, 1, 0] rfl)
        · have hf := hf.2 hc
          refine lv_iconst (v := (1 : Int32)) hx hb dX6_forcing_28 (by decide) ?_
          refine lv_iload hx hb dX6_forcing_29 (lv_at hl 4 rfl) ?_
          refine lv_ishl hx hb dX6_forcing_31 ?_
          refine lv_goto (tgt := 36) hx hb dX6_forcing_32 (by decide) ?_
          refine lv_ior hx hb dX6_forcing_36 ?_
          refine lv_istore_n (lv' := [(3, .int ((v3 ||| ((1 : Int32) <<< (v4 &&& 31))))), (0, .ref q_t), (1, .int v1), (2, .int v2), (4, .int v4)]) hx hb dX6_forcing_37 rfl hl (by decide) rfl (fun ls hl => ?_)
          refine lv_iinc (v := (v4 + (1 : Int32))) (lv' := [(4, .int ((v4 + (1 : Int32)))), (3, .int ((v3 ||| ((1 : Int32) <<< (v4 &&& 31))))), (0, .ref q_t), (1, .int v1), (2, .int v2)]) hx hb dX6_forcing_38 hl (k := 4) rfl rfl (by decide) rfl (fun ls hl => ?_)
          refine lv_goto (tgt := 5) hx hb dX6_forcing_41 (by decide) ?_
          exact ih _ _ _ _ _ hf hP hD hS (lv_sub hl [2, 3, 4, 1, 0] rfl)
  unfold wp_X6_forcing at hf
  refine lv_iconst (v := (0 : Int32)) hx hb dX6_forcing_0 (by decide) ?_
  refine lv_istore_n (lv' := [(3, .int (0 : Int32)), (0, .ref q_t), (1, .int a1), (2, .int a2)]) hx hb dX6_forcing_1 rfl hl (by decide) rfl (fun ls hl => ?_)
  refine lv_iconst (v := (0 : Int32)) hx hb dX6_forcing_2 (by decide) ?_
  refine lv_istore (lv' := [(4, .int (0 : Int32)), (3, .int (0 : Int32)), (0, .ref q_t), (1, .int a1), (2, .int a2)]) hx hb dX6_forcing_3 hl (by decide) rfl (fun ls hl => ?_)
  obtain ⟨n, hf⟩ := hf
  refine L5 a1 a2 _ ?_  n _ _ _ _ _ hf hP hD hS (lv_sub hl [2, 3, 4, 1, 0] rfl)
  intro v3_3 v4_4 H locs ls hf hP hD hS hl
  refine lv_iload_n hx hb dX6_forcing_44 rfl (lv_at hl 0 rfl) ?_
  exact hret v3_3 () hf hP hD hS dX6_forcing_45
abbrev wd_X6_pulls (cI cZ cB cG : ClassId) (q_t : Nat) (q_t_now : Nat) (q_t_rank : Nat) (q_t_keys : Nat) (q_t_aside : Nat) (q_t_old : Nat) (q_t_saved : Nat) (q_t_input : Nat) (q_t_output : Nat) (q_t_live : Nat) (q_t_weight : Nat) (q_t_measure : Nat) (q_t_planned : Nat) (q_t_came : Nat) (t_thrown : Int32) (t_oldMany : Int32) (t_savedSet : Int32) (t_inputMany : Int32) (t_outputMany : Int32) (t_errorCode : Int32) (t_errorPosition : Int32) (t_top : Int32) (t_ahead : Int32) (t_round : Int32) (t_loudest : Int32) (t_textEnd : Int32) (t_kind : Int32) (t_from : Int32) (t_to : Int32) (t_value : Int32) (t_fault : Int32) (t_faultAt : Int32) (t_now : (Nat → Int32)) (t_rank : (Nat → Int32)) : va_W := [(q_t, .inr (6, [.ref q_t_keys, .int t_thrown, .ref q_t_now, .ref q_t_aside, .ref q_t_old, .int t_oldMany, .ref q_t_saved, .int t_savedSet, .ref q_t_input, .int t_inputMany, .ref q_t_output, .int t_outputMany, .int t_errorCode, .int t_errorPosition, .ref q_t_live, .ref q_t_weight, .ref q_t_measure, .int t_top, .ref q_t_planned, .ref q_t_came, .ref q_t_rank, .int t_ahead, .int t_round, .int t_loudest, .int t_textEnd, .int t_kind, .int t_from, .int t_to, .int t_value, .int t_fault, .int t_faultAt])), (q_t_now, .inl (cI, 176, .inl t_now)), (q_t_rank, .inl (cI, 20, .inl t_rank))]
def F_X6_pulls_2 (v2 : Int32) (t_now : (Nat → Int32)) (K0 : Int32 → (Nat → Int32) → Prop) (rec : Int32 → (Nat → Int32) → Prop) (v3 : Int32) (t_rank : (Nat → Int32)) : Prop := (((t_now 0) ≤ v3 → (K0 v3 t_rank)) ∧ (¬ ((t_now 0) ≤ v3) → (wp_X6_has v2 v3 (fun r_4 => ((r_4 = (0 : Int32) → (vp_in v3 20 ∧ (rec ((v3 + (1 : Int32))) ((upd t_rank v3.toNatClampNeg (-1 : Int32)))))) ∧ (¬ (r_4 = (0 : Int32)) → (vp_in v3 20 ∧ (rec ((v3 + (1 : Int32))) ((upd t_rank v3.toNatClampNeg (0 : Int32)))))))))))
def F_X6_pulls_65 (v4 : Int32) (v5 : Int32) (t_now : (Nat → Int32)) (K0 : Int32 → (Nat → Int32) → Prop) (rec : Int32 → (Nat → Int32) → Prop) (v6 : Int32) (t_rank : (Nat → Int32)) : Prop := (((t_now 0) ≤ v6 → (K0 v6 t_rank)) ∧ (¬ ((t_now 0) ≤ v6) → (wp_X6_has v4 v6 (fun r_8 => ((r_8 = (0 : Int32) → (vp_in v6 20 ∧ (vp_in v6 20 ∧ (rec ((v6 + (1 : Int32))) ((upd t_rank v6.toNatClampNeg (t_rank v6.toNatClampNeg))))))) ∧ (¬ (r_8 = (0 : Int32)) → (vp_in v6 20 ∧ (rec ((v6 + (1 : Int32))) (upd t_rank v6.toNatClampNeg v5)))))))))
def F_X6_pulls_45 (v1 : Int32) (t_now : (Nat → Int32)) (K0 : Int32 → Int32 → Int32 → (Nat → Int32) → Prop) (rec : Int32 → Int32 → Int32 → (Nat → Int32) → Prop) (v3 : Int32) (v4 : Int32) (v5 : Int32) (t_rank : (Nat → Int32)) : Prop := ((v4 = (0 : Int32) → (K0 v3 v4 v5 t_rank)) ∧ (¬ (v4 = (0 : Int32)) → (wp_X6_forcing v1 v3 t_now (fun r_7 => (∃ n, fx2 (F_X6_pulls_65 ((r_7 &&& (v3 ^^^ (-1 : Int32)))) v5 t_now (fun v6_9 t_rank_10 => (rec ((v3 ||| (r_7 &&& (v3 ^^^ (-1 : Int32))))) ((r_7 &&& (v3 ^^^ (-1 : Int32)))) ((v5 + (1 : Int32))) t_rank_10))) n (0 : Int32) t_rank)))))
def wp_X6_pulls (a1 : Int32) (a2 : Int32) (t_now : (Nat → Int32)) (t_rank : (Nat → Int32)) (post : Int32 → (Nat → Int32) → Prop) : Prop := (∃ n, fx2 (F_X6_pulls_2 a2 t_now (fun v3_5 t_rank_6 => (∃ n, fx4 (F_X6_pulls_45 a1 t_now (fun v3_11 v4_12 v5_13 t_rank_14 => (post v3_11 t_rank_14))) n a2 a2 (1 : Int32) t_rank_6))) n (0 : Int32) t_rank)
abbrev rm_X6_pulls : Room := { frames := 4, cells := 0, slots := 0, locals := 151 }
theorem in_X6_pulls_X6 : ∀ w ∈ u_ws RX6 TX6 31, w ∈ wsX6_pulls := by decide +kernel
theorem k_X6_pulls_13 : Cond.fieldLink RX6 13 "ParityGameModel" "now" "[I" ∈ wsX6_pulls := by decide +kernel
theorem k_X6_pulls_51 : Cond.fieldLink RX6 51 "ParityGameModel" "rank" "[I" ∈ wsX6_pulls := by decide +kernel
set_option maxHeartbeats 40000000 in
set_option maxRecDepth 100000 in
theorem c_X6_pulls (l : Launch) (D : va_G) (X : gX) (cI cZ cB cG : ClassId) (sz : Nat) (q_t : Nat) (q_t_now : Nat) (q_t_rank : Nat) (q_t_keys : Nat) (q_t_aside : Nat) (q_t_old : Nat) (q_t_saved : Nat) (q_t_input : Nat) (q_t_output : Nat) (q_t_live : Nat) (q_t_weight : Nat) (q_t_measure : Nat) (q_t_planned : Nat) (q_t_came : Nat) (a1 : Int32) (a2 : Int32) (t_thrown : Int32) (t_oldMany : Int32) (t_savedSet : Int32) (t_inputMany : Int32) (t_outputMany : Int32) (t_errorCode : Int32) (t_errorPosition : Int32) (t_top : Int32) (t_ahead : Int32) (t_round : Int32) (t_loudest : Int32) (t_textEnd : Int32) (t_kind : Int32) (t_from : Int32) (t_to : Int32) (t_value : Int32) (t_fault : Int32) (t_faultAt : Int32) (t_now : (Nat → Int32)) (t_rank : (Nat → Int32)) (post : Int32 → (Nat → Int32) → Prop) (hf : wp_X6_pulls a1 a2 t_now t_rank post) : Met l yX6_pulls wsX6_pulls rm_X6_pulls (gP D X (gT cI cZ cB cG) sz [.ref q_t, .int a1, .int a2] (wd_X6_pulls cI cZ cB cG q_t q_t_now q_t_rank q_t_keys q_t_aside q_t_old q_t_saved q_t_input q_t_output q_t_live q_t_weight q_t_measure q_t_planned q_t_came t_thrown t_oldMany t_savedSet t_inputMany t_outputMany t_errorCode t_errorPosition t_top t_ahead t_round t_loudest t_textEnd t_kind t_from t_to t_value t_fault t_faultAt t_now t_rank)) (va_Qi (fun (r : Int32) (u : (Nat → Int32)) => post r u) (fun u t => gB D (gT cI cZ cB cG) (va_A (wd_X6_pulls cI cZ cB cG q_t q_t_now q_t_rank q_t_keys q_t_aside q_t_old q_t_saved q_t_input q_t_output q_t_live q_t_weight q_t_measure q_t_planned q_t_came t_thrown t_oldMany t_savedSet t_inputMany t_outputMany t_errorCode t_errorPosition t_top t_ahead t_round t_loudest t_textEnd t_kind t_from t_to t_value t_fault t_faultAt t_now t_rank) sz) (wd_X6_pulls cI cZ cB cG q_t q_t_now q_t_rank q_t_keys q_t_aside q_t_old q_t_saved q_t_input q_t_output q_t_live q_t_weight q_t_measure q_t_planned q_t_came t_thrown t_oldMany t_savedSet t_inputMany t_outputMany t_errorCode t_errorPosition t_top t_ahead t_round t_loudest t_textEnd t_kind t_from t_to t_value t_fault t_faultAt t_now u) t) (va_A (wd_X6_pulls cI cZ cB cG q_t q_t_now q_t_rank q_t_keys q_t_aside q_t_old q_t_saved q_t_input q_t_output q_t_live q_t_weight q_t_measure q_t_planned q_t_came t_thrown t_oldMany t_savedSet t_inputMany t_outputMany t_errorCode t_errorPosition t_top t_ahead t_round t_loudest t_textEnd t_kind t_from t_to t_value t_fault t_faultAt t_now t_rank) sz)) 0 0 (va_A (wd_X6_pulls cI cZ cB cG q_t q_t_now q_t_rank q_t_keys q_t_aside q_t_old q_t_saved q_t_input q_t_output q_t_live q_t_weight q_t_measure q_t_planned q_t_came t_thrown t_oldMany t_savedSet t_inputMany t_outputMany t_errorCode t_errorPosition t_top t_ahead t_round t_loudest t_textEnd t_kind t_from t_to t_value t_fault t_faultAt t_now t_rank) sz) := by
  refine g_ofWi (cc := cX6_pulls) (maxL := 7) (by decide +kernel) (Nat.le_of_ble_eq_true rfl) rfl ?_
  intro p e s m args below meth c A Q hx hb hml hown hts hA hK hE H hP hD hS ls hl hret
  have hinX6 := in_X6_pulls_X6
  have k13 := hts _ k_X6_pulls_13
  have k51 := hts _ k_X6_pulls_51
  have hl : lv_has ls 7 [(0, .ref q_t), (1, .int a1), (2, .int a2)] := hl
  have L2 : ∀ (v1 : Int32) (v2 : Int32) (K0 : Int32 → (Nat → Int32) → Prop) (_ : ∀ (v3 : Int32) (t_rank : (Nat → Int32)) (H : Heap) (locs : List Loc) (ls : Array Slot), K0 v3 t_rank → va_P D vwCl (wd_X6_pulls cI cZ cB cG q_t q_t_now q_t_rank q_t_keys q_t_aside q_t_old q_t_saved q_t_input q_t_output q_t_live q_t_weight q_t_measure q_t_planned q_t_came t_thrown t_oldMany t_savedSet t_inputMany t_outputMany t_errorCode t_errorPosition t_top t_ahead t_round t_loudest t_textEnd t_kind t_from t_to t_value t_fault t_faultAt t_now t_rank) H → va_D A (wd_X6_pulls cI cZ cB cG q_t q_t_now q_t_rank q_t_keys q_t_aside q_t_old q_t_saved q_t_input q_t_output q_t_live q_t_weight q_t_measure q_t_planned q_t_came t_thrown t_oldMany t_savedSet t_inputMany t_outputMany t_errorCode t_errorPosition t_top t_ahead t_round t_loudest t_textEnd t_kind t_from t_to t_value t_fault t_faultAt t_now t_rank) → va_S A s.heap H locs → lv_has ls 7 [(0, .ref q_t), (1, .int v1), (2, .int v2)] → W p l e (rm_X6_pulls) s m args below meth c H locs 0 0 Q (F0 m 37 ls []))  (n : Nat) (v3 : Int32) (t_rank : (Nat → Int32)) (H : Heap) (locs : List Loc) (ls : Array Slot), fx2 (F_X6_pulls_2 v2 t_now K0) n v3 t_rank → va_P D vwCl (wd_X6_pulls cI cZ cB cG q_t q_t_now q_t_rank q_t_keys q_t_aside q_t_old q_t_saved q_t_input q_t_output q_t_live q_t_weight q_t_measure q_t_planned q_t_came t_thrown t_oldMany t_savedSet t_inputMany t_outputMany t_errorCode t_errorPosition t_top t_ahead t_round t_loudest t_textEnd t_kind t_from t_to t_value t_fault t_faultAt t_now t_rank) H → va_D A (wd_X6_pulls cI cZ cB cG q_t q_t_now q_t_rank q_t_keys q_t_aside q_t_old q_t_saved q_t_input q_t_output q_t_live q_t_weight q_t_measure q_t_planned q_t_came t_thrown t_oldMany t_savedSet t_inputMany t_outputMany t_errorCode t_errorPosition t_top t_ahead t_round t_loudest t_textEnd t_kind t_from t_to t_value t_fault t_faultAt t_now t_rank) → va_S A s.heap H locs → lv_has ls 7 [(0, .ref q_t), (1, .int v1), (2, .int v2), (3, .int v3)] → W p l e (rm_X6_pulls) s m args below meth c H locs 0 0 Q (F0 m 2 ls []) := by
    intro v1 v2 K0 hK0 n
    induction n with
    | zero => intro v3 t_rank H locs ls hf; exact (hf : False).elim
    | succ n ih =>
      intro v3 t_rank H locs ls hf hP hD hS hl
      have hf : F_X6_pulls_2 v2 t_now K0 (fx2 (F_X6_pulls_2 v2 t_now K0) n) v3 t_rank := hf
      unfold F_X6_pulls_2 at hf
      refine lv_iload_n hx hb dX6_pulls_2 rfl (lv_at hl 3 rfl) ?_
      refine lv_aload_n hx hb dX6_pulls_3 rfl (lv_at hl 0 rfl) ?_
      refine va_get (D := D) (ci := 6) (v := .ref q_t_now) (C := RX6) (T := TX6) (N := 31) hx hb hts hinX6 hown hK hP 0 rfl rfl 2 (by decide) k13 (fun _ h9 => h9) rfl dX6_pulls_4 ?_
      refine lv_iconst (v := (0 : Int32)) hx hb dX6_pulls_7 (by decide) ?_
      refine va_iald hx hb hK hP 1 0 rfl rfl (n := 176) (by unfold vp_in; decide) dX6_pulls_8 ?_
      refine lv_icmp_ge (tgt := 37) hx hb dX6_pulls_9 (by decide) (fun hc => ?_) (fun hc => ?_)
      · have hf := hf.1 hc
        exact hK0 _ _ _ _ _ hf hP hD hS (lv_sub hl [0, 1, 2] rfl)
      · have hf := hf.2 hc
        refine lv_aload_n hx hb dX6_pulls_12 rfl (lv_at hl 0 rfl) ?_
        refine va_get (D := D) (ci := 6) (v := .ref q_t_rank) (C := RX6) (T := TX6) (N := 31) hx hb hts hinX6 hown hK hP 0 rfl rfl 20 (by decide) k51 (fun _ h9 => h9) rfl dX6_pulls_13 ?_
        refine lv_iload_n hx hb dX6_pulls_16 rfl (lv_at hl 3 rfl) ?_
        refine lv_iload_n hx hb dX6_pulls_17 rfl (lv_at hl 2 rfl) ?_
        refine lv_iload_n hx hb dX6_pulls_18 rfl (lv_at hl 3 rfl) ?_
        have hPc := hP.sub (ws' := ([] : va_W)) [] rfl
        have hDc := hD.sub (ws' := ([] : va_W)) [] (by decide +kernel) rfl
        have hFc := va_free (wc := ([] : va_W)) hD hS hA [] rfl
        refine va_calli (va_runS (As := [.int v2, .int v3]) (rest := [.int v3, .ref q_t_rank]) ⟨hx, hb, hml, hown, hts⟩ (c_X6_has l D X cI cZ cB cG H.size v2 v3 _ hf) (va_cwS 2 hts gX6_pulls_X6_has rfl rfl rfl (by decide +kernel) ⟨Nat.le_of_ble_eq_true rfl, Nat.le_of_ble_eq_true rfl⟩) ⟨g_blind, fun U hU hW => g_side hU hW hPc hK hDc hE hS hFc⟩ rfl rfl hl.1 rfl (lv_room (Nat.le_of_ble_eq_true rfl)) dX6_pulls_19 ⟨Nat.zero_le _, Nat.zero_le _⟩) hS (fun q _ h => hFc q h) hFc (fun r_4 u t H1 locs ht hvm hw hB hz1 hk1 hS => ?_)
        obtain ⟨hP1, hK1, hD1⟩ := hB
        rw [ht] at hP1
        obtain ⟨hP, hD⟩ := g_back (wc := ([] : va_W)) (w1 := ([] : va_W)) hP hD [] rfl rfl hk1 hP1
        have hP : va_P D vwCl (wd_X6_pulls cI cZ cB cG q_t q_t_now q_t_rank q_t_keys q_t_aside q_t_old q_t_saved q_t_input q_t_output q_t_live q_t_weight q_t_measure q_t_planned q_t_came t_thrown t_oldMany t_savedSet t_inputMany t_outputMany t_errorCode t_errorPosition t_top t_ahead t_round t_loudest t_textEnd t_kind t_from t_to t_value t_fault t_faultAt t_now t_rank) H1 := hP
        have hD : va_D A (wd_X6_pulls cI cZ cB cG q_t q_t_now q_t_rank q_t_keys q_t_aside q_t_old q_t_saved q_t_input q_t_output q_t_live q_t_weight q_t_measure q_t_planned q_t_came t_thrown t_oldMany t_savedSet t_inputMany t_outputMany t_errorCode t_errorPosition t_top t_ahead t_round t_loudest t_textEnd t_kind t_from t_to t_value t_fault t_faultAt t_now t_rank) := hD
        obtain ⟨hn_r_4, hw⟩ := hw
        have hf := hw
        generalize H1 = H at hP hS ⊢
        refine lv_if_eq (tgt := 29) hx hb dX6_pulls_22 (by decide) (fun hc => ?_) (fun hc => ?_)
        · have hf := hf.1 hc
          refine lv_iconst (v := (-1 : Int32)) hx hb dX6_pulls_29 (by decide) ?_
          refine va_iast hx hb hK hP hD hS 2 0 rfl rfl (n := 20) hf.1 dX6_pulls_30 (fun H locs hP hD hS => ?_)
          have hf := hf.2
          have hP : va_P D vwCl (wd_X6_pulls cI cZ cB cG q_t q_t_now q_t_rank q_t_keys q_t_aside q_t_old q_t_saved q_t_input q_t_output q_t_live q_t_weight q_t_measure q_t_planned q_t_came t_thrown t_oldMany t_savedSet t_inputMany t_outputMany t_errorCode t_errorPosition t_top t_ahead t_round t_loudest t_textEnd t_kind t_from t_to t_value t_fault t_faultAt t_now ((upd t_rank v3.toNatClampNeg (-1 : Int32)))) H := hP
          have hD : va_D A (wd_X6_pulls cI cZ cB cG q_t q_t_now q_t_rank q_t_keys q_t_aside q_t_old q_t_saved q_t_input q_t_output q_t_live q_t_weight q_t_measure q_t_planned q_t_came t_thrown t_oldMany t_savedSet t_inputMany t_outputMany t_errorCode t_errorPosition t_top t_ahead t_round t_loudest t_textEnd t_kind t_from t_to t_value t_fault t_faultAt t_now ((upd t_rank v3.toNatClampNeg (-1 : Int32)))) := hD
          refine lv_iinc (v := (v3 + (1 : Int32))) (lv' := [(3, .int ((v3 + (1 : Int32)))), (0, .ref q_t), (1, .int v1), (2, .int v2)]) hx hb dX6_pulls_31 hl (k := 3) rfl rfl (by decide) rfl (fun ls hl => ?_)
          refine lv_goto (tgt := 2) hx hb dX6_pulls_34 (by decide) ?_
          exact ih _ _ _ _ _ hf hP hD hS (lv_sub hl [1, 2, 3, 0] rfl)
        · have hf := hf.2 hc
          refine lv_iconst (v := (0 : Int32)) hx hb dX6_pulls_25 (by decide) ?_
          refine lv_goto (tgt := 30) hx hb dX6_pulls_26 (by decide) ?_
          refine va_iast hx hb hK hP hD hS 2 0 rfl rfl (n := 20) hf.1 dX6_pulls_30 (fun H locs hP hD hS => ?_)
          have hf := hf.2
          have hP : va_P D vwCl (wd_X6_pulls cI cZ cB cG q_t q_t_now q_t_rank q_t_keys q_t_aside q_t_old q_t_saved q_t_input q_t_output q_t_live q_t_weight q_t_measure q_t_planned q_t_came t_thrown t_oldMany t_savedSet t_inputMany t_outputMany t_errorCode t_errorPosition t_top t_ahead t_round t_loudest t_textEnd t_kind t_from t_to t_value t_fault t_faultAt t_now ((upd t_rank v3.toNatClampNeg (0 : Int32)))) H := hP
          have hD : va_D A (wd_X6_pulls cI cZ cB cG q_t q_t_now q_t_rank q_t_keys q_t_aside q_t_old q_t_saved q_t_input q_t_output q_t_live q_t_weight q_t_measure q_t_planned q_t_came t_thrown t_oldMany t_savedSet t_inputMany t_outputMany t_errorCode t_errorPosition t_top t_ahead t_round t_loudest t_textEnd t_kind t_from t_to t_value t_fault t_faultAt t_now ((upd t_rank v3.toNatClampNeg (0 : Int32)))) := hD
          refine lv_iinc (v := (v3 + (1 : Int32))) (lv' := [(3, .int ((v3 + (1 : Int32)))), (0, .ref q_t), (1, .int v1), (2, .int v2)]) hx hb dX6_pulls_31 hl (k := 3) rfl rfl (by decide) rfl (fun ls hl => ?_)
          refine lv_goto (tgt := 2) hx hb dX6_pulls_34 (by decide) ?_
          exact ih _ _ _ _ _ hf hP hD hS (lv_sub hl [1, 2, 3, 0] rfl)
  have L65 : ∀ (v1 : Int32) (v3 : Int32) (v4 : Int32) (v5 : Int32) (K0 : Int32 → (Nat → Int32) → Prop) (_ : ∀ (v6 : Int32) (t_rank : (Nat → Int32)) (H : Heap) (locs : List Loc) (ls : Array Slot), K0 v6 t_rank → va_P D vwCl (wd_X6_pulls cI cZ cB cG q_t q_t_now q_t_rank q_t_keys q_t_aside q_t_old q_t_saved q_t_input q_t_output q_t_live q_t_weight q_t_measure q_t_planned q_t_came t_thrown t_oldMany t_savedSet t_inputMany t_outputMany t_errorCode t_errorPosition t_top t_ahead t_round t_loudest t_textEnd t_kind t_from t_to t_value t_fault t_faultAt t_now t_rank) H → va_D A (wd_X6_pulls cI cZ cB cG q_t q_t_now q_t_rank q_t_keys q_t_aside q_t_old q_t_saved q_t_input q_t_output q_t_live q_t_weight q_t_measure q_t_planned q_t_came t_thrown t_oldMany t_savedSet t_inputMany t_outputMany t_errorCode t_errorPosition t_top t_ahead t_round t_loudest t_textEnd t_kind t_from t_to t_value t_fault t_faultAt t_now t_rank) → va_S A s.heap H locs → lv_has ls 7 [(0, .ref q_t), (1, .int v1), (3, .int v3), (4, .int v4), (5, .int v5)] → W p l e (rm_X6_pulls) s m args below meth c H locs 0 0 Q (F0 m 111 ls []))  (n : Nat) (v6 : Int32) (t_rank : (Nat → Int32)) (H : Heap) (locs : List Loc) (ls : Array Slot), fx2 (F_X6_pulls_65 v4 v5 t_now K0) n v6 t_rank → va_P D vwCl (wd_X6_pulls cI cZ cB cG q_t q_t_now q_t_rank q_t_keys q_t_aside q_t_old q_t_saved q_t_input q_t_output q_t_live q_t_weight q_t_measure q_t_planned q_t_came t_thrown t_oldMany t_savedSet t_inputMany t_outputMany t_errorCode t_errorPosition t_top t_ahead t_round t_loudest t_textEnd t_kind t_from t_to t_value t_fault t_faultAt t_now t_rank) H → va_D A (wd_X6_pulls cI cZ cB cG q_t q_t_now q_t_rank q_t_keys q_t_aside q_t_old q_t_saved q_t_input q_t_output q_t_live q_t_weight q_t_measure q_t_planned q_t_came t_thrown t_oldMany t_savedSet t_inputMany t_outputMany t_errorCode t_errorPosition t_top t_ahead t_round t_loudest t_textEnd t_kind t_from t_to t_value t_fault t_faultAt t_now t_rank) → va_S A s.heap H locs → lv_has ls 7 [(0, .ref q_t), (1, .int v1), (3, .int v3), (4, .int v4), (5, .int v5), (6, .int v6)] → W p l e (rm_X6_pulls) s m args below meth c H locs 0 0 Q (F0 m 65 ls []) := by
    intro v1 v3 v4 v5 K0 hK0 n
    induction n with
    | zero => intro v6 t_rank H locs ls hf; exact (hf : False).elim
    | succ n ih =>
      intro v6 t_rank H locs ls hf hP hD hS hl
      have hf : F_X6_pulls_65 v4 v5 t_now K0 (fx2 (F_X6_pulls_65 v4 v5 t_now K0) n) v6 t_rank := hf
      unfold F_X6_pulls_65 at hf
      refine lv_iload hx hb dX6_pulls_65 (lv_at hl 5 rfl) ?_
      refine lv_aload_n hx hb dX6_pulls_67 rfl (lv_at hl 0 rfl) ?_
      refine va_get (D := D) (ci := 6) (v := .ref q_t_now) (C := RX6) (T := TX6) (N := 31) hx hb hts hinX6 hown hK hP 0 rfl rfl 2 (by decide) k13 (fun _ h9 => h9) rfl dX6_pulls_68 ?_
      refine lv_iconst (v := (0 : Int32)) hx hb dX6_pulls_71 (by decide) ?_
      refine va_iald hx hb hK hP 1 0 rfl rfl (n := 176) (by unfold vp_in; decide) dX6_pulls_72 ?_
      refine lv_icmp_ge (tgt := 111) hx hb dX6_pulls_73 (by decide) (fun hc => ?_) (fun hc => ?_)
      · have hf := hf.1 hc
        exact hK0 _ _ _ _ _ hf hP hD hS (lv_sub hl [0, 1, 2, 3, 4] rfl)
      · have hf := hf.2 hc
        refine lv_aload_n hx hb dX6_pulls_76 rfl (lv_at hl 0 rfl) ?_
        refine va_get (D := D) (ci := 6) (v := .ref q_t_rank) (C := RX6) (T := TX6) (N := 31) hx hb hts hinX6 hown hK hP 0 rfl rfl 20 (by decide) k51 (fun _ h9 => h9) rfl dX6_pulls_77 ?_
        refine lv_iload hx hb dX6_pulls_80 (lv_at hl 5 rfl) ?_
        refine lv_iload hx hb dX6_pulls_82 (lv_at hl 3 rfl) ?_
        refine lv_iload hx hb dX6_pulls_84 (lv_at hl 5 rfl) ?_
        have hPc := hP.sub (ws' := ([] : va_W)) [] rfl
        have hDc := hD.sub (ws' := ([] : va_W)) [] (by decide +kernel) rfl
        have hFc := va_free (wc := ([] : va_W)) hD hS hA [] rfl
        refine va_calli (va_runS (As := [.int v4, .int v6]) (rest := [.int v6, .ref q_t_rank]) ⟨hx, hb, hml, hown, hts⟩ (c_X6_has l D X cI cZ cB cG H.size v4 v6 _ hf) (va_cwS 2 hts gX6_pulls_X6_has rfl rfl rfl (by decide +kernel) ⟨Nat.le_of_ble_eq_true rfl, Nat.le_of_ble_eq_true rfl⟩) ⟨g_blind, fun U hU hW => g_side hU hW hPc hK hDc hE hS hFc⟩ rfl rfl hl.1 rfl (lv_room (Nat.le_of_ble_eq_true rfl)) dX6_pulls_86 ⟨Nat.zero_le _, Nat.zero_le _⟩) hS (fun q _ h => hFc q h) hFc (fun r_8 u t H1 locs ht hvm hw hB hz1 hk1 hS => ?_)
        obtain ⟨hP1, hK1, hD1⟩ := hB
        rw [ht] at hP1
        obtain ⟨hP, hD⟩ := g_back (wc := ([] : va_W)) (w1 := ([] : va_W)) hP hD [] rfl rfl hk1 hP1
        have hP : va_P D vwCl (wd_X6_pulls cI cZ cB cG q_t q_t_now q_t_rank q_t_keys q_t_aside q_t_old q_t_saved q_t_input q_t_output q_t_live q_t_weight q_t_measure q_t_planned q_t_came t_thrown t_oldMany t_savedSet t_inputMany t_outputMany t_errorCode t_errorPosition t_top t_ahead t_round t_loudest t_textEnd t_kind t_from t_to t_value t_fault t_faultAt t_now t_rank) H1 := hP
        have hD : va_D A (wd_X6_pulls cI cZ cB cG q_t q_t_now q_t_rank q_t_keys q_t_aside q_t_old q_t_saved q_t_input q_t_output q_t_live q_t_weight q_t_measure q_t_planned q_t_came t_thrown t_oldMany t_savedSet t_inputMany t_outputMany t_errorCode t_errorPosition t_top t_ahead t_round t_loudest t_textEnd t_kind t_from t_to t_value t_fault t_faultAt t_now t_rank) := hD
        obtain ⟨hn_r_8, hw⟩ := hw
        have hf := hw
        generalize H1 = H at hP hS ⊢
        refine lv_if_eq (tgt := 97) hx hb dX6_pulls_89 (by decide) (fun hc => ?_) (fun hc => ?_)
        · have hf := hf.1 hc
          refine lv_aload_n hx hb dX6_pulls_97 rfl (lv_at hl 0 rfl) ?_
          refine va_get (D := D) (ci := 6) (v := .ref q_t_rank) (C := RX6) (T := TX6) (N := 31) hx hb hts hinX6 hown hK hP 0 rfl rfl 20 (by decide) k51 (fun _ h9 => h9) rfl dX6_pulls_98 ?_
          refine lv_iload hx hb dX6_pulls_101 (lv_at hl 5 rfl) ?_
          refine va_iald hx hb hK hP 2 0 rfl rfl (n := 20) hf.1 dX6_pulls_103 ?_
          have hf := hf.2
          refine va_iast hx hb hK hP hD hS 2 0 rfl rfl (n := 20) hf.1 dX6_pulls_104 (fun H locs hP hD hS => ?_)
          have hf := hf.2
          have hP : va_P D vwCl (wd_X6_pulls cI cZ cB cG q_t q_t_now q_t_rank q_t_keys q_t_aside q_t_old q_t_saved q_t_input q_t_output q_t_live q_t_weight q_t_measure q_t_planned q_t_came t_thrown t_oldMany t_savedSet t_inputMany t_outputMany t_errorCode t_errorPosition t_top t_ahead t_round t_loudest t_textEnd t_kind t_from t_to t_value t_fault t_faultAt t_now ((upd t_rank v6.toNatClampNeg (t_rank v6.toNatClampNeg)))) H := hP
          have hD : va_D A (wd_X6_pulls cI cZ cB cG q_t q_t_now q_t_rank q_t_keys q_t_aside q_t_old q_t_saved q_t_input q_t_output q_t_live q_t_weight q_t_measure q_t_planned q_t_came t_thrown t_oldMany t_savedSet t_inputMany t_outputMany t_errorCode t_errorPosition t_top t_ahead t_round t_loudest t_textEnd t_kind t_from t_to t_value t_fault t_faultAt t_now ((upd t_rank v6.toNatClampNeg (t_rank v6.toNatClampNeg)))) := hD
          refine lv_iinc (v := (v6 + (1 : Int32))) (lv' := [(6, .int ((v6 + (1 : Int32)))), (0, .ref q_t), (1, .int v1), (3, .int v3), (4, .int v4), (5, .int v5)]) hx hb dX6_pulls_105 hl (k := 5) rfl rfl (by decide) rfl (fun ls hl => ?_)
          refine lv_goto (tgt := 65) hx hb dX6_pulls_108 (by decide) ?_
          exact ih _ _ _ _ _ hf hP hD hS (lv_sub hl [1, 2, 3, 4, 5, 0] rfl)
        · have hf := hf.2 hc
          refine lv_iload hx hb dX6_pulls_92 (lv_at hl 4 rfl) ?_
          refine lv_goto (tgt := 104) hx hb dX6_pulls_94 (by decide) ?_
          refine va_iast hx hb hK hP hD hS 2 0 rfl rfl (n := 20) hf.1 dX6_pulls_104 (fun H locs hP hD hS => ?_)
          have hf := hf.2
          have hP : va_P D vwCl (wd_X6_pulls cI cZ cB cG q_t q_t_now q_t_rank q_t_keys q_t_aside q_t_old q_t_saved q_t_input q_t_output q_t_live q_t_weight q_t_measure q_t_planned q_t_came t_thrown t_oldMany t_savedSet t_inputMany t_outputMany t_errorCode t_errorPosition t_top t_ahead t_round t_loudest t_textEnd t_kind t_from t_to t_value t_fault t_faultAt t_now (upd t_rank v6.toNatClampNeg v5)) H := hP
          have hD : va_D A (wd_X6_pulls cI cZ cB cG q_t q_t_now q_t_rank q_t_keys q_t_aside q_t_old q_t_saved q_t_input q_t_output q_t_live q_t_weight q_t_measure q_t_planned q_t_came t_thrown t_oldMany t_savedSet t_inputMany t_outputMany t_errorCode t_errorPosition t_top t_ahead t_round t_loudest t_textEnd t_kind t_from t_to t_value t_fault t_faultAt t_now (upd t_rank v6.toNatClampNeg v5)) := hD
          refine lv_iinc (v := (v6 + (1 : Int32))) (lv' := [(6, .int ((v6 + (1 : Int32)))), (0, .ref q_t), (1, .int v1), (3, .int v3), (4, .int v4), (5, .int v5)]) hx hb dX6_pulls_105 hl (k := 5) rfl rfl (by decide) rfl (fun ls hl => ?_)
          refine lv_goto (tgt := 65) hx hb dX6_pulls_108 (by decide) ?_
          exact ih _ _ _ _ _ hf hP hD hS (lv_sub hl [1, 2, 3, 4, 5, 0] rfl)
  have L45 : ∀ (v1 : Int32) (K0 : Int32 → Int32 → Int32 → (Nat → Int32) → Prop) (_ : ∀ (v3 : Int32) (v4 : Int32) (v5 : Int32) (t_rank : (Nat → Int32)) (H : Heap) (locs : List Loc) (ls : Array Slot), K0 v3 v4 v5 t_rank → va_P D vwCl (wd_X6_pulls cI cZ cB cG q_t q_t_now q_t_rank q_t_keys q_t_aside q_t_old q_t_saved q_t_input q_t_output q_t_live q_t_weight q_t_measure q_t_planned q_t_came t_thrown t_oldMany t_savedSet t_inputMany t_outputMany t_errorCode t_errorPosition t_top t_ahead t_round t_loudest t_textEnd t_kind t_from t_to t_value t_fault t_faultAt t_now t_rank) H → va_D A (wd_X6_pulls cI cZ cB cG q_t q_t_now q_t_rank q_t_keys q_t_aside q_t_old q_t_saved q_t_input q_t_output q_t_live q_t_weight q_t_measure q_t_planned q_t_came t_thrown t_oldMany t_savedSet t_inputMany t_outputMany t_errorCode t_errorPosition t_top t_ahead t_round t_loudest t_textEnd t_kind t_from t_to t_value t_fault t_faultAt t_now t_rank) → va_S A s.heap H locs → lv_has ls 7 [(3, .int v3)] → W p l e (rm_X6_pulls) s m args below meth c H locs 0 0 Q (F0 m 122 ls []))  (n : Nat) (v3 : Int32) (v4 : Int32) (v5 : Int32) (t_rank : (Nat → Int32)) (H : Heap) (locs : List Loc) (ls : Array Slot), fx4 (F_X6_pulls_45 v1 t_now K0) n v3 v4 v5 t_rank → va_P D vwCl (wd_X6_pulls cI cZ cB cG q_t q_t_now q_t_rank q_t_keys q_t_aside q_t_old q_t_saved q_t_input q_t_output q_t_live q_t_weight q_t_measure q_t_planned q_t_came t_thrown t_oldMany t_savedSet t_inputMany t_outputMany t_errorCode t_errorPosition t_top t_ahead t_round t_loudest t_textEnd t_kind t_from t_to t_value t_fault t_faultAt t_now t_rank) H → va_D A (wd_X6_pulls cI cZ cB cG q_t q_t_now q_t_rank q_t_keys q_t_aside q_t_old q_t_saved q_t_input q_t_output q_t_live q_t_weight q_t_measure q_t_planned q_t_came t_thrown t_oldMany t_savedSet t_inputMany t_outputMany t_errorCode t_errorPosition t_top t_ahead t_round t_loudest t_textEnd t_kind t_from t_to t_value t_fault t_faultAt t_now t_rank) → va_S A s.heap H locs → lv_has ls 7 [(0, .ref q_t), (1, .int v1), (3, .int v3), (4, .int v4), (5, .int v5)] → W p l e (rm_X6_pulls) s m args below meth c H locs 0 0 Q (F0 m 45 ls []) := by
    intro v1 K0 hK0 n
    induction n with
    | zero => intro v3 v4 v5 t_rank H locs ls hf; exact (hf : False).elim
    | succ n ih =>
      intro v3 v4 v5 t_rank H locs ls hf hP hD hS hl
      have hf : F_X6_pulls_45 v1 t_now K0 (fx4 (F_X6_pulls_45 v1 t_now K0) n) v3 v4 v5 t_rank := hf
      unfold F_X6_pulls_45 at hf
      refine lv_iload hx hb dX6_pulls_45 (lv_at hl 3 rfl) ?_
      refine lv_if_eq (tgt := 122) hx hb dX6_pulls_47 (by decide) (fun hc => ?_) (fun hc => ?_)
      · have hf := hf.1 hc
        exact hK0 _ _ _ _ _ _ _ hf hP hD hS (lv_sub hl [2] rfl)
      · have hf := hf.2 hc
        refine lv_aload_n hx hb dX6_pulls_50 rfl (lv_at hl 0 rfl) ?_
        refine lv_iload_n hx hb dX6_pulls_51 rfl (lv_at hl 1 rfl) ?_
        refine lv_iload_n hx hb dX6_pulls_52 rfl (lv_at hl 2 rfl) ?_
        have hPc := hP.sub (ws' := (wd_X6_forcing cI cZ cB cG q_t q_t_now q_t_keys q_t_aside q_t_old q_t_saved q_t_input q_t_output q_t_live q_t_weight q_t_measure q_t_planned q_t_came q_t_rank t_thrown t_oldMany t_savedSet t_inputMany t_outputMany t_errorCode t_errorPosition t_top t_ahead t_round t_loudest t_textEnd t_kind t_from t_to t_value t_fault t_faultAt t_now)) [0, 1] rfl
        have hDc := hD.sub (ws' := (wd_X6_forcing cI cZ cB cG q_t q_t_now q_t_keys q_t_aside q_t_old q_t_saved q_t_input q_t_output q_t_live q_t_weight q_t_measure q_t_planned q_t_came q_t_rank t_thrown t_oldMany t_savedSet t_inputMany t_outputMany t_errorCode t_errorPosition t_top t_ahead t_round t_loudest t_textEnd t_kind t_from t_to t_value t_fault t_faultAt t_now)) [0, 1] (by decide +kernel) rfl
        have hFc := va_free (wc := (wd_X6_forcing cI cZ cB cG q_t q_t_now q_t_keys q_t_aside q_t_old q_t_saved q_t_input q_t_output q_t_live q_t_weight q_t_measure q_t_planned q_t_came q_t_rank t_thrown t_oldMany t_savedSet t_inputMany t_outputMany t_errorCode t_errorPosition t_top t_ahead t_round t_loudest t_textEnd t_kind t_from t_to t_value t_fault t_faultAt t_now)) hD hS hA [0, 1] rfl
        refine va_calli (va_runV (As := [.int v1, .int v3]) (rest := []) ⟨hx, hb, hml, hown, hts⟩ (c_X6_forcing l D X cI cZ cB cG H.size q_t q_t_now q_t_keys q_t_aside q_t_old q_t_saved q_t_input q_t_output q_t_live q_t_weight q_t_measure q_t_planned q_t_came q_t_rank v1 v3 t_thrown t_oldMany t_savedSet t_inputMany t_outputMany t_errorCode t_errorPosition t_top t_ahead t_round t_loudest t_textEnd t_kind t_from t_to t_value t_fault t_faultAt t_now _ hf) (cwV 2 hts gX6_pulls_X6_forcing rfl rfl rfl (by decide +kernel) ⟨Nat.le_of_ble_eq_true rfl, Nat.le_of_ble_eq_true rfl⟩) ⟨g_blind, va_recv hK hPc (ci := 6) (q0 := 0) rfl rfl, fun U hU hW => g_side hU hW hPc hK hDc hE hS hFc⟩ rfl rfl hl.1 rfl (lv_room (Nat.le_of_ble_eq_true rfl)) dX6_pulls_53 ⟨Nat.zero_le _, Nat.zero_le _⟩) hS (fun q _ h => hFc q h) hFc (fun r_7 u t H1 locs ht hvm hw hB hz1 hk1 hS => ?_)
        obtain ⟨hP1, hK1, hD1⟩ := hB
        rw [ht] at hP1
        obtain ⟨hP, hD⟩ := g_back (wc := (wd_X6_forcing cI cZ cB cG q_t q_t_now q_t_keys q_t_aside q_t_old q_t_saved q_t_input q_t_output q_t_live q_t_weight q_t_measure q_t_planned q_t_came q_t_rank t_thrown t_oldMany t_savedSet t_inputMany t_outputMany t_errorCode t_errorPosition t_top t_ahead t_round t_loudest t_textEnd t_kind t_from t_to t_value t_fault t_faultAt t_now)) (w1 := (wd_X6_forcing cI cZ cB cG q_t q_t_now q_t_keys q_t_aside q_t_old q_t_saved q_t_input q_t_output q_t_live q_t_weight q_t_measure q_t_planned q_t_came q_t_rank t_thrown t_oldMany t_savedSet t_inputMany t_outputMany t_errorCode t_errorPosition t_top t_ahead t_round t_loudest t_textEnd t_kind t_from t_to t_value t_fault t_faultAt t_now)) hP hD [0, 1] rfl rfl hk1 hP1
        have hP : va_P D vwCl (wd_X6_pulls cI cZ cB cG q_t q_t_now q_t_rank q_t_keys q_t_aside q_t_old q_t_saved q_t_input q_t_output q_t_live q_t_weight q_t_measure q_t_planned q_t_came t_thrown t_oldMany t_savedSet t_inputMany t_outputMany t_errorCode t_errorPosition t_top t_ahead t_round t_loudest t_textEnd t_kind t_from t_to t_value t_fault t_faultAt t_now t_rank) H1 := hP
        have hD : va_D A (wd_X6_pulls cI cZ cB cG q_t q_t_now q_t_rank q_t_keys q_t_aside q_t_old q_t_saved q_t_input q_t_output q_t_live q_t_weight q_t_measure q_t_planned q_t_came t_thrown t_oldMany t_savedSet t_inputMany t_outputMany t_errorCode t_errorPosition t_top t_ahead t_round t_loudest t_textEnd t_kind t_from t_to t_value t_fault t_faultAt t_now t_rank) := hD
        have hf := hw
        generalize H1 = H at hP hS ⊢
        refine lv_iload_n hx hb dX6_pulls_56 rfl (lv_at hl 2 rfl) ?_
        refine lv_iconst (v := (-1 : Int32)) hx hb dX6_pulls_57 (by decide) ?_
        refine lv_ixor hx hb dX6_pulls_58 ?_
        refine lv_iand hx hb dX6_pulls_59 ?_
        refine lv_istore (lv' := [(4, .int ((r_7 &&& (v3 ^^^ (-1 : Int32))))), (0, .ref q_t), (1, .int v1), (3, .int v3), (5, .int v5)]) hx hb dX6_pulls_60 hl (by decide) rfl (fun ls hl => ?_)
        refine lv_iconst (v := (0 : Int32)) hx hb dX6_pulls_62 (by decide) ?_
        refine lv_istore (lv' := [(6, .int (0 : Int32)), (4, .int ((r_7 &&& (v3 ^^^ (-1 : Int32))))), (0, .ref q_t), (1, .int v1), (3, .int v3), (5, .int v5)]) hx hb dX6_pulls_63 hl (by decide) rfl (fun ls hl => ?_)
        obtain ⟨n, hf⟩ := hf
        refine L65 v1 v3 ((r_7 &&& (v3 ^^^ (-1 : Int32)))) v5 _ ?_  n _ _ _ _ _ hf hP hD hS (lv_sub hl [2, 3, 4, 1, 5, 0] rfl)
        intro v6_9 t_rank_10 H locs ls hf hP hD hS hl
        refine lv_iload_n hx hb dX6_pulls_111 rfl (lv_at hl 2 rfl) ?_
        refine lv_iload hx hb dX6_pulls_112 (lv_at hl 3 rfl) ?_
        refine lv_ior hx hb dX6_pulls_114 ?_
        refine lv_istore_n (lv' := [(3, .int ((v3 ||| (r_7 &&& (v3 ^^^ (-1 : Int32)))))), (0, .ref q_t), (1, .int v1), (4, .int ((r_7 &&& (v3 ^^^ (-1 : Int32))))), (5, .int v5)]) hx hb dX6_pulls_115 rfl hl (by decide) rfl (fun ls hl => ?_)
        refine lv_iinc (v := (v5 + (1 : Int32))) (lv' := [(5, .int ((v5 + (1 : Int32)))), (3, .int ((v3 ||| (r_7 &&& (v3 ^^^ (-1 : Int32)))))), (0, .ref q_t), (1, .int v1), (4, .int ((r_7 &&& (v3 ^^^ (-1 : Int32)))))]) hx hb dX6_pulls_116 hl (k := 4) rfl rfl (by decide) rfl (fun ls hl => ?_)
        refine lv_goto (tgt := 45) hx hb dX6_pulls_119 (by decide) ?_
        exact ih _ _ _ _ _ _ _ hf hP hD hS (lv_sub hl [2, 3, 1, 4, 0] rfl)
  unfold wp_X6_pulls at hf
  refine lv_iconst (v := (0 : Int32)) hx hb dX6_pulls_0 (by decide) ?_
  refine lv_istore_n (lv' := [(3, .int (0 : Int32)), (0, .ref q_t), (1, .int a1), (2, .int a2)]) hx hb dX6_pulls_1 rfl hl (by decide) rfl (fun ls hl => ?_)
  obtain ⟨n, hf⟩ := hf
  refine L2 a1 a2 _ ?_  n _ _ _ _ _ hf hP hD hS (lv_sub hl [1, 2, 3, 0] rfl)
  intro v3_5 t_rank_6 H locs ls hf hP hD hS hl
  refine lv_iload_n hx hb dX6_pulls_37 rfl (lv_at hl 2 rfl) ?_
  refine lv_istore_n (lv' := [(3, .int a2), (0, .ref q_t), (1, .int a1), (2, .int a2)]) hx hb dX6_pulls_38 rfl hl (by decide) rfl (fun ls hl => ?_)
  refine lv_iload_n hx hb dX6_pulls_39 rfl (lv_at hl 3 rfl) ?_
  refine lv_istore (lv' := [(4, .int a2), (3, .int a2), (0, .ref q_t), (1, .int a1), (2, .int a2)]) hx hb dX6_pulls_40 hl (by decide) rfl (fun ls hl => ?_)
  refine lv_iconst (v := (1 : Int32)) hx hb dX6_pulls_42 (by decide) ?_
  refine lv_istore (lv' := [(5, .int (1 : Int32)), (4, .int a2), (3, .int a2), (0, .ref q_t), (1, .int a1), (2, .int a2)]) hx hb dX6_pulls_43 hl (by decide) rfl (fun ls hl => ?_)
  obtain ⟨n, hf⟩ := hf
  refine L45 a1 _ ?_  n _ _ _ _ _ _ _ hf hP hD hS (lv_sub hl [3, 4, 2, 1, 0] rfl)
  intro v3_11 v4_12 v5_13 t_rank_14 H locs ls hf hP hD hS hl
  refine lv_iload_n hx hb dX6_pulls_122 rfl (lv_at hl 0 rfl) ?_
  exact hret v3_11 t_rank_14 hf hP hD hS dX6_pulls_123
abbrev wd_X6_leaves (cI cZ cB cG : ClassId) (q_t : Nat) (q_t_now : Nat) (q_t_keys : Nat) (q_t_aside : Nat) (q_t_old : Nat) (q_t_saved : Nat) (q_t_input : Nat) (q_t_output : Nat) (q_t_live : Nat) (q_t_weight : Nat) (q_t_measure : Nat) (q_t_planned : Nat) (q_t_came : Nat) (q_t_rank : Nat) (t_thrown : Int32) (t_oldMany : Int32) (t_savedSet : Int32) (t_inputMany : Int32) (t_outputMany : Int32) (t_errorCode : Int32) (t_errorPosition : Int32) (t_top : Int32) (t_ahead : Int32) (t_round : Int32) (t_loudest : Int32) (t_textEnd : Int32) (t_kind : Int32) (t_from : Int32) (t_to : Int32) (t_value : Int32) (t_fault : Int32) (t_faultAt : Int32) (t_now : (Nat → Int32)) : va_W := [(q_t, .inr (6, [.ref q_t_keys, .int t_thrown, .ref q_t_now, .ref q_t_aside, .ref q_t_old, .int t_oldMany, .ref q_t_saved, .int t_savedSet, .ref q_t_input, .int t_inputMany, .ref q_t_output, .int t_outputMany, .int t_errorCode, .int t_errorPosition, .ref q_t_live, .ref q_t_weight, .ref q_t_measure, .int t_top, .ref q_t_planned, .ref q_t_came, .ref q_t_rank, .int t_ahead, .int t_round, .int t_loudest, .int t_textEnd, .int t_kind, .int t_from, .int t_to, .int t_value, .int t_fault, .int t_faultAt])), (q_t_now, .inl (cI, 176, .inl t_now))]
def F_X6_leaves_9 (v2 : Int32) (v3 : Int32) (t_now : (Nat → Int32)) (K0 : Int32 → Int32 → Int32 → Prop) (rec : Int32 → Int32 → Int32 → Prop) (v4 : Int32) (v5 : Int32) (v6 : Int32) : Prop := (((t_now 1) ≤ v6 → (K0 v4 v5 v6)) ∧ (¬ ((t_now 1) ≤ v6) → (vp_in (((44 : Int32) + v6)) 176 ∧ ((¬ (t_now (((44 : Int32) + v6)).toNatClampNeg) = v2 → (rec v4 v5 ((v6 + (1 : Int32))))) ∧ ((t_now (((44 : Int32) + v6)).toNatClampNeg) = v2 → (vp_in (((105 : Int32) + v6)) 176 ∧ (wp_X6_has v3 ((t_now (((105 : Int32) + v6)).toNatClampNeg)) (fun r_2 => ((r_2 = (0 : Int32) → (rec ((v4 + (1 : Int32))) ((v5 + (1 : Int32))) ((v6 + (1 : Int32))))) ∧ (¬ (r_2 = (0 : Int32)) → (rec ((v4 + (1 : Int32))) ((v5 + (0 : Int32))) ((v6 + (1 : Int32))))))))))))))
def wp_X6_leaves (a1 : Int32) (a2 : Int32) (a3 : Int32) (t_now : (Nat → Int32)) (post : Int32 → Prop) : Prop := (∃ n, fx3 (F_X6_leaves_9 a2 a3 t_now (fun v4_3 v5_4 v6_5 => (vp_in (((4 : Int32) + a2)) 176 ∧ ((¬ (t_now (((4 : Int32) + a2)).toNatClampNeg) = a1 → ((v5_4 ≤ (0 : Int32) → (post (0 : Int32))) ∧ (¬ (v5_4 ≤ (0 : Int32)) → (post (1 : Int32))))) ∧ ((t_now (((4 : Int32) + a2)).toNatClampNeg) = a1 → ((v4_3 ≤ (0 : Int32) → (post (0 : Int32))) ∧ (¬ (v4_3 ≤ (0 : Int32)) → ((¬ v5_4 = v4_3 → (post (0 : Int32))) ∧ (v5_4 = v4_3 → (post (1 : Int32))))))))))) n (0 : Int32) (0 : Int32) (0 : Int32))
abbrev rm_X6_leaves : Room := { frames := 2, cells := 0, slots := 0, locals := 101 }
theorem in_X6_leaves_X6 : ∀ w ∈ u_ws RX6 TX6 31, w ∈ wsX6_leaves := by decide +kernel
theorem k_X6_leaves_13 : Cond.fieldLink RX6 13 "ParityGameModel" "now" "[I" ∈ wsX6_leaves := by decide +kernel
set_option maxHeartbeats 40000000 in
set_option maxRecDepth 100000 in
theorem c_X6_leaves (l : Launch) (D : va_G) (X : gX) (cI cZ cB cG : ClassId) (sz : Nat) (q_t : Nat) (q_t_now : Nat) (q_t_keys : Nat) (q_t_aside : Nat) (q_t_old : Nat) (q_t_saved : Nat) (q_t_input : Nat) (q_t_output : Nat) (q_t_live : Nat) (q_t_weight : Nat) (q_t_measure : Nat) (q_t_planned : Nat) (q_t_came : Nat) (q_t_rank : Nat) (a1 : Int32) (a2 : Int32) (a3 : Int32) (t_thrown : Int32) (t_oldMany : Int32) (t_savedSet : Int32) (t_inputMany : Int32) (t_outputMany : Int32) (t_errorCode : Int32) (t_errorPosition : Int32) (t_top : Int32) (t_ahead : Int32) (t_round : Int32) (t_loudest : Int32) (t_textEnd : Int32) (t_kind : Int32) (t_from : Int32) (t_to : Int32) (t_value : Int32) (t_fault : Int32) (t_faultAt : Int32) (t_now : (Nat → Int32)) (post : Int32 → Prop) (hf : wp_X6_leaves a1 a2 a3 t_now post) : Met l yX6_leaves wsX6_leaves rm_X6_leaves (gP D X (gT cI cZ cB cG) sz [.ref q_t, .int a1, .int a2, .int a3] (wd_X6_leaves cI cZ cB cG q_t q_t_now q_t_keys q_t_aside q_t_old q_t_saved q_t_input q_t_output q_t_live q_t_weight q_t_measure q_t_planned q_t_came q_t_rank t_thrown t_oldMany t_savedSet t_inputMany t_outputMany t_errorCode t_errorPosition t_top t_ahead t_round t_loudest t_textEnd t_kind t_from t_to t_value t_fault t_faultAt t_now)) (va_Qi (fun (r : Int32) (u : Unit) => narrow .boolean (.int r) = .int r ∧ post r) (fun u t => gB D (gT cI cZ cB cG) (va_A (wd_X6_leaves cI cZ cB cG q_t q_t_now q_t_keys q_t_aside q_t_old q_t_saved q_t_input q_t_output q_t_live q_t_weight q_t_measure q_t_planned q_t_came q_t_rank t_thrown t_oldMany t_savedSet t_inputMany t_outputMany t_errorCode t_errorPosition t_top t_ahead t_round t_loudest t_textEnd t_kind t_from t_to t_value t_fault t_faultAt t_now) sz) (wd_X6_leaves cI cZ cB cG q_t q_t_now q_t_keys q_t_aside q_t_old q_t_saved q_t_input q_t_output q_t_live q_t_weight q_t_measure q_t_planned q_t_came q_t_rank t_thrown t_oldMany t_savedSet t_inputMany t_outputMany t_errorCode t_errorPosition t_top t_ahead t_round t_loudest t_textEnd t_kind t_from t_to t_value t_fault t_faultAt t_now) t) (va_A (wd_X6_leaves cI cZ cB cG q_t q_t_now q_t_keys q_t_aside q_t_old q_t_saved q_t_input q_t_output q_t_live q_t_weight q_t_measure q_t_planned q_t_came q_t_rank t_thrown t_oldMany t_savedSet t_inputMany t_outputMany t_errorCode t_errorPosition t_top t_ahead t_round t_loudest t_textEnd t_kind t_from t_to t_value t_fault t_faultAt t_now) sz)) 0 0 (va_A (wd_X6_leaves cI cZ cB cG q_t q_t_now q_t_keys q_t_aside q_t_old q_t_saved q_t_input q_t_output q_t_live q_t_weight q_t_measure q_t_planned q_t_came q_t_rank t_thrown t_oldMany t_savedSet t_inputMany t_outputMany t_errorCode t_errorPosition t_top t_ahead t_round t_loudest t_textEnd t_kind t_from t_to t_value t_fault t_faultAt t_now) sz) := by
  refine g_ofWz (cc := cX6_leaves) (maxL := 7) (by decide +kernel) (Nat.le_of_ble_eq_true rfl) rfl ?_
  intro p e s m args below meth c A Q hx hb hml hown hts hA hK hE H hP hD hS ls hl hret
  have hinX6 := in_X6_leaves_X6
  have k13 := hts _ k_X6_leaves_13
  have hl : lv_has ls 7 [(0, .ref q_t), (1, .int a1), (2, .int a2), (3, .int a3)] := hl
  have L9 : ∀ (v1 : Int32) (v2 : Int32) (v3 : Int32) (K0 : Int32 → Int32 → Int32 → Prop) (_ : ∀ (v4 : Int32) (v5 : Int32) (v6 : Int32) (H : Heap) (locs : List Loc) (ls : Array Slot), K0 v4 v5 v6 → va_P D vwCl (wd_X6_leaves cI cZ cB cG q_t q_t_now q_t_keys q_t_aside q_t_old q_t_saved q_t_input q_t_output q_t_live q_t_weight q_t_measure q_t_planned q_t_came q_t_rank t_thrown t_oldMany t_savedSet t_inputMany t_outputMany t_errorCode t_errorPosition t_top t_ahead t_round t_loudest t_textEnd t_kind t_from t_to t_value t_fault t_faultAt t_now) H → va_D A (wd_X6_leaves cI cZ cB cG q_t q_t_now q_t_keys q_t_aside q_t_old q_t_saved q_t_input q_t_output q_t_live q_t_weight q_t_measure q_t_planned q_t_came q_t_rank t_thrown t_oldMany t_savedSet t_inputMany t_outputMany t_errorCode t_errorPosition t_top t_ahead t_round t_loudest t_textEnd t_kind t_from t_to t_value t_fault t_faultAt t_now) → va_S A s.heap H locs → lv_has ls 7 [(0, .ref q_t), (1, .int v1), (2, .int v2), (4, .int v4), (5, .int v5)] → W p l e (rm_X6_leaves) s m args below meth c H locs 0 0 Q (F0 m 70 ls []))  (n : Nat) (v4 : Int32) (v5 : Int32) (v6 : Int32) (H : Heap) (locs : List Loc) (ls : Array Slot), fx3 (F_X6_leaves_9 v2 v3 t_now K0) n v4 v5 v6 → va_P D vwCl (wd_X6_leaves cI cZ cB cG q_t q_t_now q_t_keys q_t_aside q_t_old q_t_saved q_t_input q_t_output q_t_live q_t_weight q_t_measure q_t_planned q_t_came q_t_rank t_thrown t_oldMany t_savedSet t_inputMany t_outputMany t_errorCode t_errorPosition t_top t_ahead t_round t_loudest t_textEnd t_kind t_from t_to t_value t_fault t_faultAt t_now) H → va_D A (wd_X6_leaves cI cZ cB cG q_t q_t_now q_t_keys q_t_aside q_t_old q_t_saved q_t_input q_t_output q_t_live q_t_weight q_t_measure q_t_planned q_t_came q_t_rank t_thrown t_oldMany t_savedSet t_inputMany t_outputMany t_errorCode t_errorPosition t_top t_ahead t_round t_loudest t_textEnd t_kind t_from t_to t_value t_fault t_faultAt t_now) → va_S A s.heap H locs → lv_has ls 7 [(0, .ref q_t), (1, .int v1), (2, .int v2), (3, .int v3), (4, .int v4), (5, .int v5), (6, .int v6)] → W p l e (rm_X6_leaves) s m args below meth c H locs 0 0 Q (F0 m 9 ls []) := by
    intro v1 v2 v3 K0 hK0 n
    induction n with
    | zero => intro v4 v5 v6 H locs ls hf; exact (hf : False).elim
    | succ n ih =>
      intro v4 v5 v6 H locs ls hf hP hD hS hl
      have hf : F_X6_leaves_9 v2 v3 t_now K0 (fx3 (F_X6_leaves_9 v2 v3 t_now K0) n) v4 v5 v6 := hf
      unfold F_X6_leaves_9 at hf
      refine lv_iload hx hb dX6_leaves_9 (lv_at hl 6 rfl) ?_
      refine lv_aload_n hx hb dX6_leaves_11 rfl (lv_at hl 0 rfl) ?_
      refine va_get (D := D) (ci := 6) (v := .ref q_t_now) (C := RX6) (T := TX6) (N := 31) hx hb hts hinX6 hown hK hP 0 rfl rfl 2 (by decide) k13 (fun _ h9 => h9) rfl dX6_leaves_12 ?_
      refine lv_iconst (v := (1 : Int32)) hx hb dX6_leaves_15 (by decide) ?_
      refine va_iald hx hb hK hP 1 0 rfl rfl (n := 176) (by unfold vp_in; decide) dX6_leaves_16 ?_
      refine lv_icmp_ge (tgt := 70) hx hb dX6_leaves_17 (by decide) (fun hc => ?_) (fun hc => ?_)
      · have hf := hf.1 hc
        exact hK0 _ _ _ _ _ _ hf hP hD hS (lv_sub hl [0, 1, 2, 4, 5] rfl)
      · have hf := hf.2 hc
        refine lv_aload_n hx hb dX6_leaves_20 rfl (lv_at hl 0 rfl) ?_
        refine va_get (D := D) (ci := 6) (v := .ref q_t_now) (C := RX6) (T := TX6) (N := 31) hx hb hts hinX6 hown hK hP 0 rfl rfl 2 (by decide) k13 (fun _ h9 => h9) rfl dX6_leaves_21 ?_
        refine lv_bipush (v := (44 : Int32)) hx hb dX6_leaves_24 (by decide) ?_
        refine lv_iload hx hb dX6_leaves_26 (lv_at hl 6 rfl) ?_
        refine lv_iadd hx hb dX6_leaves_28 ?_
        refine va_iald hx hb hK hP 1 0 rfl rfl (n := 176) hf.1 dX6_leaves_29 ?_
        have hf := hf.2
        refine lv_iload_n hx hb dX6_leaves_30 rfl (lv_at hl 2 rfl) ?_
        refine lv_icmp_ne (tgt := 64) hx hb dX6_leaves_31 (by decide) (fun hc => ?_) (fun hc => ?_)
        · have hf := hf.1 hc
          refine lv_iinc (v := (v6 + (1 : Int32))) (lv' := [(6, .int ((v6 + (1 : Int32)))), (0, .ref q_t), (1, .int v1), (2, .int v2), (3, .int v3), (4, .int v4), (5, .int v5)]) hx hb dX6_leaves_64 hl (k := 6) rfl rfl (by decide) rfl (fun ls hl => ?_)
          refine lv_goto (tgt := 9) hx hb dX6_leaves_67 (by decide) ?_
          exact ih _ _ _ _ _ _ hf hP hD hS (lv_sub hl [1, 2, 3, 4, 5, 6, 0] rfl)
        · have hf := hf.2 hc
          refine lv_iinc (v := (v4 + (1 : Int32))) (lv' := [(4, .int ((v4 + (1 : Int32)))), (0, .ref q_t), (1, .int v1), (2, .int v2), (3, .int v3), (5, .int v5), (6, .int v6)]) hx hb dX6_leaves_34 hl (k := 4) rfl rfl (by decide) rfl (fun ls hl => ?_)
          refine lv_iload hx hb dX6_leaves_37 (lv_at hl 5 rfl) ?_
          refine lv_iload_n hx hb dX6_leaves_39 rfl (lv_at hl 4 rfl) ?_
          refine lv_aload_n hx hb dX6_leaves_40 rfl (lv_at hl 1 rfl) ?_
          refine va_get (D := D) (ci := 6) (v := .ref q_t_now) (C := RX6) (T := TX6) (N := 31) hx hb hts hinX6 hown hK hP 0 rfl rfl 2 (by decide) k13 (fun _ h9 => h9) rfl dX6_leaves_41 ?_
          refine lv_bipush (v := (105 : Int32)) hx hb dX6_leaves_44 (by decide) ?_
          refine lv_iload hx hb dX6_leaves_46 (lv_at hl 6 rfl) ?_
          refine lv_iadd hx hb dX6_leaves_48 ?_
          refine va_iald hx hb hK hP 1 0 rfl rfl (n := 176) hf.1 dX6_leaves_49 ?_
          have hf := hf.2
          have hPc := hP.sub (ws' := ([] : va_W)) [] rfl
          have hDc := hD.sub (ws' := ([] : va_W)) [] (by decide +kernel) rfl
          have hFc := va_free (wc := ([] : va_W)) hD hS hA [] rfl
          refine va_calli (va_runS (As := [.int v3, .int ((t_now (((105 : Int32) + v6)).toNatClampNeg))]) (rest := [.int v5]) ⟨hx, hb, hml, hown, hts⟩ (c_X6_has l D X cI cZ cB cG H.size v3 ((t_now (((105 : Int32) + v6)).toNatClampNeg)) _ hf) (va_cwS 2 hts gX6_leaves_X6_has rfl rfl rfl (by decide +kernel) ⟨Nat.le_of_ble_eq_true rfl, Nat.le_of_ble_eq_true rfl⟩) ⟨g_blind, fun U hU hW => g_side hU hW hPc hK hDc hE hS hFc⟩ rfl rfl hl.1 rfl (lv_room (Nat.le_of_ble_eq_true rfl)) dX6_leaves_50 ⟨Nat.zero_le _, Nat.zero_le _⟩) hS (fun q _ h => hFc q h) hFc (fun r_2 u t H1 locs ht hvm hw hB hz1 hk1 hS => ?_)
          obtain ⟨hP1, hK1, hD1⟩ := hB
          rw [ht] at hP1
          obtain ⟨hP, hD⟩ := g_back (wc := ([] : va_W)) (w1 := ([] : va_W)) hP hD [] rfl rfl hk1 hP1
          have hP : va_P D vwCl (wd_X6_leaves cI cZ cB cG q_t q_t_now q_t_keys q_t_aside q_t_old q_t_saved q_t_input q_t_output q_t_live q_t_weight q_t_measure q_t_planned q_t_came q_t_rank t_thrown t_oldMany t_savedSet t_inputMany t_outputMany t_errorCode t_errorPosition t_top t_ahead t_round t_loudest t_textEnd t_kind t_from t_to t_value t_fault t_faultAt t_now) H1 := hP
          have hD : va_D A (wd_X6_leaves cI cZ cB cG q_t q_t_now q_t_keys q_t_aside q_t_old q_t_saved q_t_input q_t_output q_t_live q_t_weight q_t_measure q_t_planned q_t_came q_t_rank t_thrown t_oldMany t_savedSet t_inputMany t_outputMany t_errorCode t_errorPosition t_top t_ahead t_round t_loudest t_textEnd t_kind t_from t_to t_value t_fault t_faultAt t_now) := hD
          obtain ⟨hn_r_2, hw⟩ := hw
          have hf := hw
          generalize H1 = H at hP hS ⊢
          refine lv_if_eq (tgt := 60) hx hb dX6_leaves_53 (by decide) (fun hc => ?_) (fun hc => ?_)
          · have hf := hf.1 hc
            refine lv_iconst (v := (1 : Int32)) hx hb dX6_leaves_60 (by decide) ?_
            refine lv_iadd hx hb dX6_leaves_61 ?_
            refine lv_istore (lv' := [(5, .int ((v5 + (1 : Int32)))), (4, .int ((v4 + (1 : Int32)))), (0, .ref q_t), (1, .int v1), (2, .int v2), (3, .int v3), (6, .int v6)]) hx hb dX6_leaves_62 hl (by decide) rfl (fun ls hl => ?_)
            refine lv_iinc (v := (v6 + (1 : Int32))) (lv' := [(6, .int ((v6 + (1 : Int32)))), (5, .int ((v5 + (1 : Int32)))), (4, .int ((v4 + (1 : Int32)))), (0, .ref q_t), (1, .int v1), (2, .int v2), (3, .int v3)]) hx hb dX6_leaves_64 hl (k := 6) rfl rfl (by decide) rfl (fun ls hl => ?_)
            refine lv_goto (tgt := 9) hx hb dX6_leaves_67 (by decide) ?_
            exact ih _ _ _ _ _ _ hf hP hD hS (lv_sub hl [3, 4, 5, 6, 2, 1, 0] rfl)
          · have hf := hf.2 hc
            refine lv_iconst (v := (0 : Int32)) hx hb dX6_leaves_56 (by decide) ?_
            refine lv_goto (tgt := 61) hx hb dX6_leaves_57 (by decide) ?_
            refine lv_iadd hx hb dX6_leaves_61 ?_
            refine lv_istore (lv' := [(5, .int ((v5 + (0 : Int32)))), (4, .int ((v4 + (1 : Int32)))), (0, .ref q_t), (1, .int v1), (2, .int v2), (3, .int v3), (6, .int v6)]) hx hb dX6_leaves_62 hl (by decide) rfl (fun ls hl => ?_)
            refine lv_iinc (v := (v6 + (1 : Int32))) (lv' := [(6, .int ((v6 + (1 : Int32)))), (5, .int ((v5 + (0 : Int32)))), (4, .int ((v4 + (1 : Int32)))), (0, .ref q_t), (1, .int v1), (2, .int v2), (3, .int v3)]) hx hb dX6_leaves_64 hl (k := 6) rfl rfl (by decide) rfl (fun ls hl => ?_)
            refine lv_goto (tgt := 9) hx hb dX6_leaves_67 (by decide) ?_
            exact ih _ _ _ _ _ _ hf hP hD hS (lv_sub hl [3, 4, 5, 6, 2, 1, 0] rfl)
  unfold wp_X6_leaves at hf
  refine lv_iconst (v := (0 : Int32)) hx hb dX6_leaves_0 (by decide) ?_
  refine lv_istore (lv' := [(4, .int (0 : Int32)), (0, .ref q_t), (1, .int a1), (2, .int a2), (3, .int a3)]) hx hb dX6_leaves_1 hl (by decide) rfl (fun ls hl => ?_)
  refine lv_iconst (v := (0 : Int32)) hx hb dX6_leaves_3 (by decide) ?_
  refine lv_istore (lv' := [(5, .int (0 : Int32)), (4, .int (0 : Int32)), (0, .ref q_t), (1, .int a1), (2, .int a2), (3, .int a3)]) hx hb dX6_leaves_4 hl (by decide) rfl (fun ls hl => ?_)
  refine lv_iconst (v := (0 : Int32)) hx hb dX6_leaves_6 (by decide) ?_
  refine lv_istore (lv' := [(6, .int (0 : Int32)), (5, .int (0 : Int32)), (4, .int (0 : Int32)), (0, .ref q_t), (1, .int a1), (2, .int a2), (3, .int a3)]) hx hb dX6_leaves_7 hl (by decide) rfl (fun ls hl => ?_)
  obtain ⟨n, hf⟩ := hf
  refine L9 a1 a2 a3 _ ?_  n _ _ _ _ _ _ hf hP hD hS (lv_sub hl [3, 4, 5, 6, 2, 1, 0] rfl)
  intro v4_3 v5_4 v6_5 H locs ls hf hP hD hS hl
  refine lv_aload_n hx hb dX6_leaves_70 rfl (lv_at hl 0 rfl) ?_
  refine va_get (D := D) (ci := 6) (v := .ref q_t_now) (C := RX6) (T := TX6) (N := 31) hx hb hts hinX6 hown hK hP 0 rfl rfl 2 (by decide) k13 (fun _ h9 => h9) rfl dX6_leaves_71 ?_
  refine lv_iconst (v := (4 : Int32)) hx hb dX6_leaves_74 (by decide) ?_
  refine lv_iload_n hx hb dX6_leaves_75 rfl (lv_at hl 2 rfl) ?_
  refine lv_iadd hx hb dX6_leaves_76 ?_
  refine va_iald hx hb hK hP 1 0 rfl rfl (n := 176) hf.1 dX6_leaves_77 ?_
  have hf := hf.2
  refine lv_iload_n hx hb dX6_leaves_78 rfl (lv_at hl 1 rfl) ?_
  refine lv_icmp_ne (tgt := 102) hx hb dX6_leaves_79 (by decide) (fun hc => ?_) (fun hc => ?_)
  · have hf := hf.1 hc
    refine lv_iload hx hb dX6_leaves_102 (lv_at hl 4 rfl) ?_
    refine lv_if_le (tgt := 111) hx hb dX6_leaves_104 (by decide) (fun hc => ?_) (fun hc => ?_)
    · have hf := hf.1 hc
      refine lv_iconst (v := (0 : Int32)) hx hb dX6_leaves_111 (by decide) ?_
      exact hret (0 : Int32) () (by decide) hf hP hD hS dX6_leaves_112
    · have hf := hf.2 hc
      refine lv_iconst (v := (1 : Int32)) hx hb dX6_leaves_107 (by decide) ?_
      refine lv_goto (tgt := 112) hx hb dX6_leaves_108 (by decide) ?_
      exact hret (1 : Int32) () (by decide) hf hP hD hS dX6_leaves_112
  · have hf := hf.2 hc
    refine lv_iload hx hb dX6_leaves_82 (lv_at hl 3 rfl) ?_
    refine lv_if_le (tgt := 98) hx hb dX6_leaves_84 (by decide) (fun hc => ?_) (fun hc => ?_)
    · have hf := hf.1 hc
      refine lv_iconst (v := (0 : Int32)) hx hb dX6_leaves_98 (by decide) ?_
      refine lv_goto (tgt := 112) hx hb dX6_leaves_99 (by decide) ?_
      exact hret (0 : Int32) () (by decide) hf hP hD hS dX6_leaves_112
    · have hf := hf.2 hc
      refine lv_iload hx hb dX6_leaves_87 (lv_at hl 4 rfl) ?_
      refine lv_iload hx hb dX6_leaves_89 (lv_at hl 3 rfl) ?_
      refine lv_icmp_ne (tgt := 98) hx hb dX6_leaves_91 (by decide) (fun hc => ?_) (fun hc => ?_)
      · have hf := hf.1 hc
        refine lv_iconst (v := (0 : Int32)) hx hb dX6_leaves_98 (by decide) ?_
        refine lv_goto (tgt := 112) hx hb dX6_leaves_99 (by decide) ?_
        exact hret (0 : Int32) () (by decide) hf hP hD hS dX6_leaves_112
      · have hf := hf.2 hc
        refine lv_iconst (v := (1 : Int32)) hx hb dX6_leaves_94 (by decide) ?_
        refine lv_goto (tgt := 112) hx hb dX6_leaves_95 (by decide) ?_
        exact hret (1 : Int32) () (by decide) hf hP hD hS dX6_leaves_112
abbrev wd_X6_stays (cI cZ cB cG : ClassId) (q_t : Nat) (q_t_now : Nat) (q_t_keys : Nat) (q_t_aside : Nat) (q_t_old : Nat) (q_t_saved : Nat) (q_t_input : Nat) (q_t_output : Nat) (q_t_live : Nat) (q_t_weight : Nat) (q_t_measure : Nat) (q_t_planned : Nat) (q_t_came : Nat) (q_t_rank : Nat) (t_thrown : Int32) (t_oldMany : Int32) (t_savedSet : Int32) (t_inputMany : Int32) (t_outputMany : Int32) (t_errorCode : Int32) (t_errorPosition : Int32) (t_top : Int32) (t_ahead : Int32) (t_round : Int32) (t_loudest : Int32) (t_textEnd : Int32) (t_kind : Int32) (t_from : Int32) (t_to : Int32) (t_value : Int32) (t_fault : Int32) (t_faultAt : Int32) (t_now : (Nat → Int32)) : va_W := [(q_t, .inr (6, [.ref q_t_keys, .int t_thrown, .ref q_t_now, .ref q_t_aside, .ref q_t_old, .int t_oldMany, .ref q_t_saved, .int t_savedSet, .ref q_t_input, .int t_inputMany, .ref q_t_output, .int t_outputMany, .int t_errorCode, .int t_errorPosition, .ref q_t_live, .ref q_t_weight, .ref q_t_measure, .int t_top, .ref q_t_planned, .ref q_t_came, .ref q_t_rank, .int t_ahead, .int t_round, .int t_loudest, .int t_textEnd, .int t_kind, .int t_from, .int t_to, .int t_value, .int t_fault, .int t_faultAt])), (q_t_now, .inl (cI, 176, .inl t_now))]
def F_X6_stays_17 (v1 : Int32) (v4 : Int32) (t_now : (Nat → Int32)) (K0 : Int32 → Int32 → Prop) (rec : Int32 → Int32 → Prop) (v3 : Int32) (v5 : Int32) : Prop := (((t_now 0) ≤ v5 → (K0 v3 v5)) ∧ (¬ ((t_now 0) ≤ v5) → (wp_X6_has v3 v5 (fun r_3 => ((r_3 = (0 : Int32) → (rec v3 ((v5 + (1 : Int32))))) ∧ (¬ (r_3 = (0 : Int32)) → (wp_X6_leaves v1 v5 v4 t_now (fun r_4 => ((r_4 = (0 : Int32) → (rec v3 ((v5 + (1 : Int32))))) ∧ (¬ (r_4 = (0 : Int32)) → (rec ((v3 &&& (((1 : Int32) <<< (v5 &&& 31)) ^^^ (-1 : Int32)))) ((v5 + (1 : Int32))))))))))))))
def F_X6_stays_5 (v1 : Int32) (t_now : (Nat → Int32)) (K0 : Int32 → Int32 → Prop) (rec : Int32 → Int32 → Prop) (v3 : Int32) (v4 : Int32) : Prop := ((v3 = v4 → (K0 v3 v4)) ∧ (¬ (v3 = v4) → (∃ n, fx2 (F_X6_stays_17 v1 v3 t_now (fun v3_5 v5_6 => (rec v3_5 v3))) n v3 (0 : Int32))))
def wp_X6_stays (a1 : Int32) (a2 : Int32) (t_now : (Nat → Int32)) (post : Int32 → Prop) : Prop := (∃ n, fx2 (F_X6_stays_5 a1 t_now (fun v3_7 v4_8 => (post v3_7))) n a2 (-1 : Int32))
abbrev rm_X6_stays : Room := { frames := 3, cells := 0, slots := 0, locals := 127 }
theorem in_X6_stays_X6 : ∀ w ∈ u_ws RX6 TX6 31, w ∈ wsX6_stays := by decide +kernel
theorem k_X6_stays_13 : Cond.fieldLink RX6 13 "ParityGameModel" "now" "[I" ∈ wsX6_stays := by decide +kernel
set_option maxHeartbeats 40000000 in
set_option maxRecDepth 100000 in
theorem c_X6_stays (l : Launch) (D : va_G) (X : gX) (cI cZ cB cG : ClassId) (sz : Nat) (q_t : Nat) (q_t_now : Nat) (q_t_keys : Nat) (q_t_aside : Nat) (q_t_old : Nat) (q_t_saved : Nat) (q_t_input : Nat) (q_t_output : Nat) (q_t_live : Nat) (q_t_weight : Nat) (q_t_measure : Nat) (q_t_planned : Nat) (q_t_came : Nat) (q_t_rank : Nat) (a1 : Int32) (a2 : Int32) (t_thrown : Int32) (t_oldMany : Int32) (t_savedSet : Int32) (t_inputMany : Int32) (t_outputMany : Int32) (t_errorCode : Int32) (t_errorPosition : Int32) (t_top : Int32) (t_ahead : Int32) (t_round : Int32) (t_loudest : Int32) (t_textEnd : Int32) (t_kind : Int32) (t_from : Int32) (t_to : Int32) (t_value : Int32) (t_fault : Int32) (t_faultAt : Int32) (t_now : (Nat → Int32)) (post : Int32 → Prop) (hf : wp_X6_stays a1 a2 t_now post) : Met l yX6_stays wsX6_stays rm_X6_stays (gP D X (gT cI cZ cB cG) sz [.ref q_t, .int a1, .int a2] (wd_X6_stays cI cZ cB cG q_t q_t_now q_t_keys q_t_aside q_t_old q_t_saved q_t_input q_t_output q_t_live q_t_weight q_t_measure q_t_planned q_t_came q_t_rank t_thrown t_oldMany t_savedSet t_inputMany t_outputMany t_errorCode t_errorPosition t_top t_ahead t_round t_loudest t_textEnd t_kind t_from t_to t_value t_fault t_faultAt t_now)) (va_Qi (fun (r : Int32) (u : Unit) => post r) (fun u t => gB D (gT cI cZ cB cG) (va_A (wd_X6_stays cI cZ cB cG q_t q_t_now q_t_keys q_t_aside q_t_old q_t_saved q_t_input q_t_output q_t_live q_t_weight q_t_measure q_t_planned q_t_came q_t_rank t_thrown t_oldMany t_savedSet t_inputMany t_outputMany t_errorCode t_errorPosition t_top t_ahead t_round t_loudest t_textEnd t_kind t_from t_to t_value t_fault t_faultAt t_now) sz) (wd_X6_stays cI cZ cB cG q_t q_t_now q_t_keys q_t_aside q_t_old q_t_saved q_t_input q_t_output q_t_live q_t_weight q_t_measure q_t_planned q_t_came q_t_rank t_thrown t_oldMany t_savedSet t_inputMany t_outputMany t_errorCode t_errorPosition t_top t_ahead t_round t_loudest t_textEnd t_kind t_from t_to t_value t_fault t_faultAt t_now) t) (va_A (wd_X6_stays cI cZ cB cG q_t q_t_now q_t_keys q_t_aside q_t_old q_t_saved q_t_input q_t_output q_t_live q_t_weight q_t_measure q_t_planned q_t_came q_t_rank t_thrown t_oldMany t_savedSet t_inputMany t_outputMany t_errorCode t_errorPosition t_top t_ahead t_round t_loudest t_textEnd t_kind t_from t_to t_value t_fault t_faultAt t_now) sz)) 0 0 (va_A (wd_X6_stays cI cZ cB cG q_t q_t_now q_t_keys q_t_aside q_t_old q_t_saved q_t_input q_t_output q_t_live q_t_weight q_t_measure q_t_planned q_t_came q_t_rank t_thrown t_oldMany t_savedSet t_inputMany t_outputMany t_errorCode t_errorPosition t_top t_ahead t_round t_loudest t_textEnd t_kind t_from t_to t_value t_fault t_faultAt t_now) sz) := by
  refine g_ofWi (cc := cX6_stays) (maxL := 6) (by decide +kernel) (Nat.le_of_ble_eq_true rfl) rfl ?_
  intro p e s m args below meth c A Q hx hb hml hown hts hA hK hE H hP hD hS ls hl hret
  have hinX6 := in_X6_stays_X6
  have k13 := hts _ k_X6_stays_13
  have hl : lv_has ls 6 [(0, .ref q_t), (1, .int a1), (2, .int a2)] := hl
  have L17 : ∀ (v1 : Int32) (v4 : Int32) (K0 : Int32 → Int32 → Prop) (_ : ∀ (v3 : Int32) (v5 : Int32) (H : Heap) (locs : List Loc) (ls : Array Slot), K0 v3 v5 → va_P D vwCl (wd_X6_stays cI cZ cB cG q_t q_t_now q_t_keys q_t_aside q_t_old q_t_saved q_t_input q_t_output q_t_live q_t_weight q_t_measure q_t_planned q_t_came q_t_rank t_thrown t_oldMany t_savedSet t_inputMany t_outputMany t_errorCode t_errorPosition t_top t_ahead t_round t_loudest t_textEnd t_kind t_from t_to t_value t_fault t_faultAt t_now) H → va_D A (wd_X6_stays cI cZ cB cG q_t q_t_now q_t_keys q_t_aside q_t_old q_t_saved q_t_input q_t_output q_t_live q_t_weight q_t_measure q_t_planned q_t_came q_t_rank t_thrown t_oldMany t_savedSet t_inputMany t_outputMany t_errorCode t_errorPosition t_top t_ahead t_round t_loudest t_textEnd t_kind t_from t_to t_value t_fault t_faultAt t_now) → va_S A s.heap H locs → lv_has ls 6 [(0, .ref q_t), (1, .int v1), (3, .int v3), (4, .int v4)] → W p l e (rm_X6_stays) s m args below meth c H locs 0 0 Q (F0 m 64 ls []))  (n : Nat) (v3 : Int32) (v5 : Int32) (H : Heap) (locs : List Loc) (ls : Array Slot), fx2 (F_X6_stays_17 v1 v4 t_now K0) n v3 v5 → va_P D vwCl (wd_X6_stays cI cZ cB cG q_t q_t_now q_t_keys q_t_aside q_t_old q_t_saved q_t_input q_t_output q_t_live q_t_weight q_t_measure q_t_planned q_t_came q_t_rank t_thrown t_oldMany t_savedSet t_inputMany t_outputMany t_errorCode t_errorPosition t_top t_ahead t_round t_loudest t_textEnd t_kind t_from t_to t_value t_fault t_faultAt t_now) H → va_D A (wd_X6_stays cI cZ cB cG q_t q_t_now q_t_keys q_t_aside q_t_old q_t_saved q_t_input q_t_output q_t_live q_t_weight q_t_measure q_t_planned q_t_came q_t_rank t_thrown t_oldMany t_savedSet t_inputMany t_outputMany t_errorCode t_errorPosition t_top t_ahead t_round t_loudest t_textEnd t_kind t_from t_to t_value t_fault t_faultAt t_now) → va_S A s.heap H locs → lv_has ls 6 [(0, .ref q_t), (1, .int v1), (3, .int v3), (4, .int v4), (5, .int v5)] → W p l e (rm_X6_stays) s m args below meth c H locs 0 0 Q (F0 m 17 ls []) := by
    intro v1 v4 K0 hK0 n
    induction n with
    | zero => intro v3 v5 H locs ls hf; exact (hf : False).elim
    | succ n ih =>
      intro v3 v5 H locs ls hf hP hD hS hl
      have hf : F_X6_stays_17 v1 v4 t_now K0 (fx2 (F_X6_stays_17 v1 v4 t_now K0) n) v3 v5 := hf
      unfold F_X6_stays_17 at hf
      refine lv_iload hx hb dX6_stays_17 (lv_at hl 4 rfl) ?_
      refine lv_aload_n hx hb dX6_stays_19 rfl (lv_at hl 0 rfl) ?_
      refine va_get (D := D) (ci := 6) (v := .ref q_t_now) (C := RX6) (T := TX6) (N := 31) hx hb hts hinX6 hown hK hP 0 rfl rfl 2 (by decide) k13 (fun _ h9 => h9) rfl dX6_stays_20 ?_
      refine lv_iconst (v := (0 : Int32)) hx hb dX6_stays_23 (by decide) ?_
      refine va_iald hx hb hK hP 1 0 rfl rfl (n := 176) (by unfold vp_in; decide) dX6_stays_24 ?_
      refine lv_icmp_ge (tgt := 64) hx hb dX6_stays_25 (by decide) (fun hc => ?_) (fun hc => ?_)
      · have hf := hf.1 hc
        exact hK0 _ _ _ _ _ hf hP hD hS (lv_sub hl [0, 1, 2, 3] rfl)
      · have hf := hf.2 hc
        refine lv_iload_n hx hb dX6_stays_28 rfl (lv_at hl 2 rfl) ?_
        refine lv_iload hx hb dX6_stays_29 (lv_at hl 4 rfl) ?_
        have hPc := hP.sub (ws' := ([] : va_W)) [] rfl
        have hDc := hD.sub (ws' := ([] : va_W)) [] (by decide +kernel) rfl
        have hFc := va_free (wc := ([] : va_W)) hD hS hA [] rfl
        refine va_calli (va_runS (As := [.int v3, .int v5]) (rest := []) ⟨hx, hb, hml, hown, hts⟩ (c_X6_has l D X cI cZ cB cG H.size v3 v5 _ hf) (va_cwS 2 hts gX6_stays_X6_has rfl rfl rfl (by decide +kernel) ⟨Nat.le_of_ble_eq_true rfl, Nat.le_of_ble_eq_true rfl⟩) ⟨g_blind, fun U hU hW => g_side hU hW hPc hK hDc hE hS hFc⟩ rfl rfl hl.1 rfl (lv_room (Nat.le_of_ble_eq_true rfl)) dX6_stays_31 ⟨Nat.zero_le _, Nat.zero_le _⟩) hS (fun q _ h => hFc q h) hFc (fun r_3 u t H1 locs ht hvm hw hB hz1 hk1 hS => ?_)
        obtain ⟨hP1, hK1, hD1⟩ := hB
        rw [ht] at hP1
        obtain ⟨hP, hD⟩ := g_back (wc := ([] : va_W)) (w1 := ([] : va_W)) hP hD [] rfl rfl hk1 hP1
        have hP : va_P D vwCl (wd_X6_stays cI cZ cB cG q_t q_t_now q_t_keys q_t_aside q_t_old q_t_saved q_t_input q_t_output q_t_live q_t_weight q_t_measure q_t_planned q_t_came q_t_rank t_thrown t_oldMany t_savedSet t_inputMany t_outputMany t_errorCode t_errorPosition t_top t_ahead t_round t_loudest t_textEnd t_kind t_from t_to t_value t_fault t_faultAt t_now) H1 := hP
        have hD : va_D A (wd_X6_stays cI cZ cB cG q_t q_t_now q_t_keys q_t_aside q_t_old q_t_saved q_t_input q_t_output q_t_live q_t_weight q_t_measure q_t_planned q_t_came q_t_rank t_thrown t_oldMany t_savedSet t_inputMany t_outputMany t_errorCode t_errorPosition t_top t_ahead t_round t_loudest t_textEnd t_kind t_from t_to t_value t_fault t_faultAt t_now) := hD
        obtain ⟨hn_r_3, hw⟩ := hw
        have hf := hw
        generalize H1 = H at hP hS ⊢
        refine lv_if_eq (tgt := 58) hx hb dX6_stays_34 (by decide) (fun hc => ?_) (fun hc => ?_)
        · have hf := hf.1 hc
          refine lv_iinc (v := (v5 + (1 : Int32))) (lv' := [(5, .int ((v5 + (1 : Int32)))), (0, .ref q_t), (1, .int v1), (3, .int v3), (4, .int v4)]) hx hb dX6_stays_58 hl (k := 4) rfl rfl (by decide) rfl (fun ls hl => ?_)
          refine lv_goto (tgt := 17) hx hb dX6_stays_61 (by decide) ?_
          exact ih _ _ _ _ _ hf hP hD hS (lv_sub hl [1, 2, 3, 4, 0] rfl)
        · have hf := hf.2 hc
          refine lv_aload_n hx hb dX6_stays_37 rfl (lv_at hl 0 rfl) ?_
          refine lv_iload_n hx hb dX6_stays_38 rfl (lv_at hl 1 rfl) ?_
          refine lv_iload hx hb dX6_stays_39 (lv_at hl 4 rfl) ?_
          refine lv_iload hx hb dX6_stays_41 (lv_at hl 3 rfl) ?_
          have hPc := hP.sub (ws' := (wd_X6_leaves cI cZ cB cG q_t q_t_now q_t_keys q_t_aside q_t_old q_t_saved q_t_input q_t_output q_t_live q_t_weight q_t_measure q_t_planned q_t_came q_t_rank t_thrown t_oldMany t_savedSet t_inputMany t_outputMany t_errorCode t_errorPosition t_top t_ahead t_round t_loudest t_textEnd t_kind t_from t_to t_value t_fault t_faultAt t_now)) [0, 1] rfl
          have hDc := hD.sub (ws' := (wd_X6_leaves cI cZ cB cG q_t q_t_now q_t_keys q_t_aside q_t_old q_t_saved q_t_input q_t_output q_t_live q_t_weight q_t_measure q_t_planned q_t_came q_t_rank t_thrown t_oldMany t_savedSet t_inputMany t_outputMany t_errorCode t_errorPosition t_top t_ahead t_round t_loudest t_textEnd t_kind t_from t_to t_value t_fault t_faultAt t_now)) [0, 1] (by decide +kernel) rfl
          have hFc := va_free (wc := (wd_X6_leaves cI cZ cB cG q_t q_t_now q_t_keys q_t_aside q_t_old q_t_saved q_t_input q_t_output q_t_live q_t_weight q_t_measure q_t_planned q_t_came q_t_rank t_thrown t_oldMany t_savedSet t_inputMany t_outputMany t_errorCode t_errorPosition t_top t_ahead t_round t_loudest t_textEnd t_kind t_from t_to t_value t_fault t_faultAt t_now)) hD hS hA [0, 1] rfl
          refine va_calli (va_runV (As := [.int v1, .int v5, .int v4]) (rest := []) ⟨hx, hb, hml, hown, hts⟩ (c_X6_leaves l D X cI cZ cB cG H.size q_t q_t_now q_t_keys q_t_aside q_t_old q_t_saved q_t_input q_t_output q_t_live q_t_weight q_t_measure q_t_planned q_t_came q_t_rank v1 v5 v4 t_thrown t_oldMany t_savedSet t_inputMany t_outputMany t_errorCode t_errorPosition t_top t_ahead t_round t_loudest t_textEnd t_kind t_from t_to t_value t_fault t_faultAt t_now _ hf) (cwV 3 hts gX6_stays_X6_leaves rfl rfl rfl (by decide +kernel) ⟨Nat.le_of_ble_eq_true rfl, Nat.le_of_ble_eq_true rfl⟩) ⟨g_blind, va_recv hK hPc (ci := 6) (q0 := 0) rfl rfl, fun U hU hW => g_side hU hW hPc hK hDc hE hS hFc⟩ rfl rfl hl.1 rfl (lv_room (Nat.le_of_ble_eq_true rfl)) dX6_stays_43 ⟨Nat.zero_le _, Nat.zero_le _⟩) hS (fun q _ h => hFc q h) hFc (fun r_4 u t H1 locs ht hvm hw hB hz1 hk1 hS => ?_)
          obtain ⟨hP1, hK1, hD1⟩ := hB
          rw [ht] at hP1
          obtain ⟨hP, hD⟩ := g_back (wc := (wd_X6_leaves cI cZ cB cG q_t q_t_now q_t_keys q_t_aside q_t_old q_t_saved q_t_input q_t_output q_t_live q_t_weight q_t_measure q_t_planned q_t_came q_t_rank t_thrown t_oldMany t_savedSet t_inputMany t_outputMany t_errorCode t_errorPosition t_top t_ahead t_round t_loudest t_textEnd t_kind t_from t_to t_value t_fault t_faultAt t_now)) (w1 := (wd_X6_leaves cI cZ cB cG q_t q_t_now q_t_keys q_t_aside q_t_old q_t_saved q_t_input q_t_output q_t_live q_t_weight q_t_measure q_t_planned q_t_came q_t_rank t_thrown t_oldMany t_savedSet t_inputMany t_outputMany t_errorCode t_errorPosition t_top t_ahead t_round t_loudest t_textEnd t_kind t_from t_to t_value t_fault t_faultAt t_now)) hP hD [0, 1] rfl rfl hk1 hP1
          have hP : va_P D vwCl (wd_X6_stays cI cZ cB cG q_t q_t_now q_t_keys q_t_aside q_t_old q_t_saved q_t_input q_t_output q_t_live q_t_weight q_t_measure q_t_planned q_t_came q_t_rank t_thrown t_oldMany t_savedSet t_inputMany t_outputMany t_errorCode t_errorPosition t_top t_ahead t_round t_loudest t_textEnd t_kind t_from t_to t_value t_fault t_faultAt t_now) H1 := hP
          have hD : va_D A (wd_X6_stays cI cZ cB cG q_t q_t_now q_t_keys q_t_aside q_t_old q_t_saved q_t_input q_t_output q_t_live q_t_weight q_t_measure q_t_planned q_t_came q_t_rank t_thrown t_oldMany t_savedSet t_inputMany t_outputMany t_errorCode t_errorPosition t_top t_ahead t_round t_loudest t_textEnd t_kind t_from t_to t_value t_fault t_faultAt t_now) := hD
          obtain ⟨hn_r_4, hw⟩ := hw
          have hf := hw
          generalize H1 = H at hP hS ⊢
          refine lv_if_eq (tgt := 58) hx hb dX6_stays_46 (by decide) (fun hc => ?_) (fun hc => ?_)
          · have hf := hf.1 hc
            refine lv_iinc (v := (v5 + (1 : Int32))) (lv' := [(5, .int ((v5 + (1 : Int32)))), (0, .ref q_t), (1, .int v1), (3, .int v3), (4, .int v4)]) hx hb dX6_stays_58 hl (k := 4) rfl rfl (by decide) rfl (fun ls hl => ?_)
            refine lv_goto (tgt := 17) hx hb dX6_stays_61 (by decide) ?_
            exact ih _ _ _ _ _ hf hP hD hS (lv_sub hl [1, 2, 3, 4, 0] rfl)
          · have hf := hf.2 hc
            refine lv_iload_n hx hb dX6_stays_49 rfl (lv_at hl 2 rfl) ?_
            refine lv_iconst (v := (1 : Int32)) hx hb dX6_stays_50 (by decide) ?_
            refine lv_iload hx hb dX6_stays_51 (lv_at hl 4 rfl) ?_
            refine lv_ishl hx hb dX6_stays_53 ?_
            refine lv_iconst (v := (-1 : Int32)) hx hb dX6_stays_54 (by decide) ?_
            refine lv_ixor hx hb dX6_stays_55 ?_
            refine lv_iand hx hb dX6_stays_56 ?_
            refine lv_istore_n (lv' := [(3, .int ((v3 &&& (((1 : Int32) <<< (v5 &&& 31)) ^^^ (-1 : Int32))))), (0, .ref q_t), (1, .int v1), (4, .int v4), (5, .int v5)]) hx hb dX6_stays_57 rfl hl (by decide) rfl (fun ls hl => ?_)
            refine lv_iinc (v := (v5 + (1 : Int32))) (lv' := [(5, .int ((v5 + (1 : Int32)))), (3, .int ((v3 &&& (((1 : Int32) <<< (v5 &&& 31)) ^^^ (-1 : Int32))))), (0, .ref q_t), (1, .int v1), (4, .int v4)]) hx hb dX6_stays_58 hl (k := 4) rfl rfl (by decide) rfl (fun ls hl => ?_)
            refine lv_goto (tgt := 17) hx hb dX6_stays_61 (by decide) ?_
            exact ih _ _ _ _ _ hf hP hD hS (lv_sub hl [2, 3, 1, 4, 0] rfl)
  have L5 : ∀ (v1 : Int32) (K0 : Int32 → Int32 → Prop) (_ : ∀ (v3 : Int32) (v4 : Int32) (H : Heap) (locs : List Loc) (ls : Array Slot), K0 v3 v4 → va_P D vwCl (wd_X6_stays cI cZ cB cG q_t q_t_now q_t_keys q_t_aside q_t_old q_t_saved q_t_input q_t_output q_t_live q_t_weight q_t_measure q_t_planned q_t_came q_t_rank t_thrown t_oldMany t_savedSet t_inputMany t_outputMany t_errorCode t_errorPosition t_top t_ahead t_round t_loudest t_textEnd t_kind t_from t_to t_value t_fault t_faultAt t_now) H → va_D A (wd_X6_stays cI cZ cB cG q_t q_t_now q_t_keys q_t_aside q_t_old q_t_saved q_t_input q_t_output q_t_live q_t_weight q_t_measure q_t_planned q_t_came q_t_rank t_thrown t_oldMany t_savedSet t_inputMany t_outputMany t_errorCode t_errorPosition t_top t_ahead t_round t_loudest t_textEnd t_kind t_from t_to t_value t_fault t_faultAt t_now) → va_S A s.heap H locs → lv_has ls 6 [(3, .int v3)] → W p l e (rm_X6_stays) s m args below meth c H locs 0 0 Q (F0 m 67 ls []))  (n : Nat) (v3 : Int32) (v4 : Int32) (H : Heap) (locs : List Loc) (ls : Array Slot), fx2 (F_X6_stays_5 v1 t_now K0) n v3 v4 → va_P D vwCl (wd_X6_stays cI cZ cB cG q_t q_t_now q_t_keys q_t_aside q_t_old q_t_saved q_t_input q_t_output q_t_live q_t_weight q_t_measure q_t_planned q_t_came q_t_rank t_thrown t_oldMany t_savedSet t_inputMany t_outputMany t_errorCode t_errorPosition t_top t_ahead t_round t_loudest t_textEnd t_kind t_from t_to t_value t_fault t_faultAt t_now) H → va_D A (wd_X6_stays cI cZ cB cG q_t q_t_now q_t_keys q_t_aside q_t_old q_t_saved q_t_input q_t_output q_t_live q_t_weight q_t_measure q_t_planned q_t_came q_t_rank t_thrown t_oldMany t_savedSet t_inputMany t_outputMany t_errorCode t_errorPosition t_top t_ahead t_round t_loudest t_textEnd t_kind t_from t_to t_value t_fault t_faultAt t_now) → va_S A s.heap H locs → lv_has ls 6 [(0, .ref q_t), (1, .int v1), (3, .int v3), (4, .int v4)] → W p l e (rm_X6_stays) s m args below meth c H locs 0 0 Q (F0 m 5 ls []) := by
    intro v1 K0 hK0 n
    induction n with
    | zero => intro v3 v4 H locs ls hf; exact (hf : False).elim
    | succ n ih =>
      intro v3 v4 H locs ls hf hP hD hS hl
      have hf : F_X6_stays_5 v1 t_now K0 (fx2 (F_X6_stays_5 v1 t_now K0) n) v3 v4 := hf
      unfold F_X6_stays_5 at hf
      refine lv_iload_n hx hb dX6_stays_5 rfl (lv_at hl 2 rfl) ?_
      refine lv_iload hx hb dX6_stays_6 (lv_at hl 3 rfl) ?_
      refine lv_icmp_eq (tgt := 67) hx hb dX6_stays_8 (by decide) (fun hc => ?_) (fun hc => ?_)
      · have hf := hf.1 hc
        exact hK0 _ _ _ _ _ hf hP hD hS (lv_sub hl [2] rfl)
      · have hf := hf.2 hc
        refine lv_iload_n hx hb dX6_stays_11 rfl (lv_at hl 2 rfl) ?_
        refine lv_istore (lv' := [(4, .int v3), (0, .ref q_t), (1, .int v1), (3, .int v3)]) hx hb dX6_stays_12 hl (by decide) rfl (fun ls hl => ?_)
        refine lv_iconst (v := (0 : Int32)) hx hb dX6_stays_14 (by decide) ?_
        refine lv_istore (lv' := [(5, .int (0 : Int32)), (4, .int v3), (0, .ref q_t), (1, .int v1), (3, .int v3)]) hx hb dX6_stays_15 hl (by decide) rfl (fun ls hl => ?_)
        obtain ⟨n, hf⟩ := hf
        refine L17 v1 v3 _ ?_  n _ _ _ _ _ hf hP hD hS (lv_sub hl [2, 3, 4, 1, 0] rfl)
        intro v3_5 v5_6 H locs ls hf hP hD hS hl
        refine lv_goto (tgt := 5) hx hb dX6_stays_64 (by decide) ?_
        exact ih _ _ _ _ _ hf hP hD hS (lv_sub hl [0, 1, 2, 3] rfl)
  unfold wp_X6_stays at hf
  refine lv_iload_n hx hb dX6_stays_0 rfl (lv_at hl 2 rfl) ?_
  refine lv_istore_n (lv' := [(3, .int a2), (0, .ref q_t), (1, .int a1), (2, .int a2)]) hx hb dX6_stays_1 rfl hl (by decide) rfl (fun ls hl => ?_)
  refine lv_iconst (v := (-1 : Int32)) hx hb dX6_stays_2 (by decide) ?_
  refine lv_istore (lv' := [(4, .int (-1 : Int32)), (3, .int a2), (0, .ref q_t), (1, .int a1), (2, .int a2)]) hx hb dX6_stays_3 hl (by decide) rfl (fun ls hl => ?_)
  obtain ⟨n, hf⟩ := hf
  refine L5 a1 _ ?_  n _ _ _ _ _ hf hP hD hS (lv_sub hl [2, 3, 1, 0] rfl)
  intro v3_7 v4_8 H locs ls hf hP hD hS hl
  refine lv_iload_n hx hb dX6_stays_67 rfl (lv_at hl 0 rfl) ?_
  exact hret v3_7 () hf hP hD hS dX6_stays_68
abbrev wd_X6_comesBack (cI cZ cB cG : ClassId) (q_t : Nat) (q_t_now : Nat) (q_t_rank : Nat) (q_t_keys : Nat) (q_t_aside : Nat) (q_t_old : Nat) (q_t_saved : Nat) (q_t_input : Nat) (q_t_output : Nat) (q_t_live : Nat) (q_t_weight : Nat) (q_t_measure : Nat) (q_t_planned : Nat) (q_t_came : Nat) (t_thrown : Int32) (t_oldMany : Int32) (t_savedSet : Int32) (t_inputMany : Int32) (t_outputMany : Int32) (t_errorCode : Int32) (t_errorPosition : Int32) (t_top : Int32) (t_ahead : Int32) (t_round : Int32) (t_loudest : Int32) (t_textEnd : Int32) (t_kind : Int32) (t_from : Int32) (t_to : Int32) (t_value : Int32) (t_fault : Int32) (t_faultAt : Int32) (t_now : (Nat → Int32)) (t_rank : (Nat → Int32)) : va_W := [(q_t, .inr (6, [.ref q_t_keys, .int t_thrown, .ref q_t_now, .ref q_t_aside, .ref q_t_old, .int t_oldMany, .ref q_t_saved, .int t_savedSet, .ref q_t_input, .int t_inputMany, .ref q_t_output, .int t_outputMany, .int t_errorCode, .int t_errorPosition, .ref q_t_live, .ref q_t_weight, .ref q_t_measure, .int t_top, .ref q_t_planned, .ref q_t_came, .ref q_t_rank, .int t_ahead, .int t_round, .int t_loudest, .int t_textEnd, .int t_kind, .int t_from, .int t_to, .int t_value, .int t_fault, .int t_faultAt])), (q_t_now, .inl (cI, 176, .inl t_now)), (q_t_rank, .inl (cI, 20, .inl t_rank))]
def F_X6_comesBack_8 (v1 : Int32) (v2 : Int32) (t_now : (Nat → Int32)) (K0 : Int32 → Int32 → (Nat → Int32) → Prop) (rec : Int32 → Int32 → (Nat → Int32) → Prop) (v3 : Int32) (v4 : Int32) (t_rank : (Nat → Int32)) : Prop := ((v3 = v4 → (K0 v3 v4 t_rank)) ∧ (¬ (v3 = v4) → (wp_X6_forcing v1 v3 t_now (fun r_5 => (wp_X6_pulls v1 (v2 &&& r_5) t_now t_rank (fun r_6 t_rank_7 => (rec (r_6 &&& v3) v3 t_rank_7)))))))
def wp_X6_comesBack (a1 : Int32) (a2 : Int32) (t_now : (Nat → Int32)) (t_rank : (Nat → Int32)) (post : Int32 → (Nat → Int32) → Prop) : Prop := (wp_X6_all t_now (fun r_4 => (∃ n, fx3 (F_X6_comesBack_8 a1 a2 t_now (fun v3_8 v4_9 t_rank_10 => (post v3_8 t_rank_10))) n r_4 (-1 : Int32) t_rank)))
abbrev rm_X6_comesBack : Room := { frames := 5, cells := 0, slots := 0, locals := 177 }
set_option maxHeartbeats 40000000 in
set_option maxRecDepth 100000 in
theorem c_X6_comesBack (l : Launch) (D : va_G) (X : gX) (cI cZ cB cG : ClassId) (sz : Nat) (q_t : Nat) (q_t_now : Nat) (q_t_rank : Nat) (q_t_keys : Nat) (q_t_aside : Nat) (q_t_old : Nat) (q_t_saved : Nat) (q_t_input : Nat) (q_t_output : Nat) (q_t_live : Nat) (q_t_weight : Nat) (q_t_measure : Nat) (q_t_planned : Nat) (q_t_came : Nat) (a1 : Int32) (a2 : Int32) (t_thrown : Int32) (t_oldMany : Int32) (t_savedSet : Int32) (t_inputMany : Int32) (t_outputMany : Int32) (t_errorCode : Int32) (t_errorPosition : Int32) (t_top : Int32) (t_ahead : Int32) (t_round : Int32) (t_loudest : Int32) (t_textEnd : Int32) (t_kind : Int32) (t_from : Int32) (t_to : Int32) (t_value : Int32) (t_fault : Int32) (t_faultAt : Int32) (t_now : (Nat → Int32)) (t_rank : (Nat → Int32)) (post : Int32 → (Nat → Int32) → Prop) (hf : wp_X6_comesBack a1 a2 t_now t_rank post) : Met l yX6_comesBack wsX6_comesBack rm_X6_comesBack (gP D X (gT cI cZ cB cG) sz [.ref q_t, .int a1, .int a2] (wd_X6_comesBack cI cZ cB cG q_t q_t_now q_t_rank q_t_keys q_t_aside q_t_old q_t_saved q_t_input q_t_output q_t_live q_t_weight q_t_measure q_t_planned q_t_came t_thrown t_oldMany t_savedSet t_inputMany t_outputMany t_errorCode t_errorPosition t_top t_ahead t_round t_loudest t_textEnd t_kind t_from t_to t_value t_fault t_faultAt t_now t_rank)) (va_Qi (fun (r : Int32) (u : (Nat → Int32)) => post r u) (fun u t => gB D (gT cI cZ cB cG) (va_A (wd_X6_comesBack cI cZ cB cG q_t q_t_now q_t_rank q_t_keys q_t_aside q_t_old q_t_saved q_t_input q_t_output q_t_live q_t_weight q_t_measure q_t_planned q_t_came t_thrown t_oldMany t_savedSet t_inputMany t_outputMany t_errorCode t_errorPosition t_top t_ahead t_round t_loudest t_textEnd t_kind t_from t_to t_value t_fault t_faultAt t_now t_rank) sz) (wd_X6_comesBack cI cZ cB cG q_t q_t_now q_t_rank q_t_keys q_t_aside q_t_old q_t_saved q_t_input q_t_output q_t_live q_t_weight q_t_measure q_t_planned q_t_came t_thrown t_oldMany t_savedSet t_inputMany t_outputMany t_errorCode t_errorPosition t_top t_ahead t_round t_loudest t_textEnd t_kind t_from t_to t_value t_fault t_faultAt t_now u) t) (va_A (wd_X6_comesBack cI cZ cB cG q_t q_t_now q_t_rank q_t_keys q_t_aside q_t_old q_t_saved q_t_input q_t_output q_t_live q_t_weight q_t_measure q_t_planned q_t_came t_thrown t_oldMany t_savedSet t_inputMany t_outputMany t_errorCode t_errorPosition t_top t_ahead t_round t_loudest t_textEnd t_kind t_from t_to t_value t_fault t_faultAt t_now t_rank) sz)) 0 0 (va_A (wd_X6_comesBack cI cZ cB cG q_t q_t_now q_t_rank q_t_keys q_t_aside q_t_old q_t_saved q_t_input q_t_output q_t_live q_t_weight q_t_measure q_t_planned q_t_came t_thrown t_oldMany t_savedSet t_inputMany t_outputMany t_errorCode t_errorPosition t_top t_ahead t_round t_loudest t_textEnd t_kind t_from t_to t_value t_fault t_faultAt t_now t_rank) sz) := by
  refine g_ofWi (cc := cX6_comesBack) (maxL := 5) (by decide +kernel) (Nat.le_of_ble_eq_true rfl) rfl ?_
  intro p e s m args below meth c A Q hx hb hml hown hts hA hK hE H hP hD hS ls hl hret
  have hl : lv_has ls 5 [(0, .ref q_t), (1, .int a1), (2, .int a2)] := hl
  have L8 : ∀ (v1 : Int32) (v2 : Int32) (K0 : Int32 → Int32 → (Nat → Int32) → Prop) (_ : ∀ (v3 : Int32) (v4 : Int32) (t_rank : (Nat → Int32)) (H : Heap) (locs : List Loc) (ls : Array Slot), K0 v3 v4 t_rank → va_P D vwCl (wd_X6_comesBack cI cZ cB cG q_t q_t_now q_t_rank q_t_keys q_t_aside q_t_old q_t_saved q_t_input q_t_output q_t_live q_t_weight q_t_measure q_t_planned q_t_came t_thrown t_oldMany t_savedSet t_inputMany t_outputMany t_errorCode t_errorPosition t_top t_ahead t_round t_loudest t_textEnd t_kind t_from t_to t_value t_fault t_faultAt t_now t_rank) H → va_D A (wd_X6_comesBack cI cZ cB cG q_t q_t_now q_t_rank q_t_keys q_t_aside q_t_old q_t_saved q_t_input q_t_output q_t_live q_t_weight q_t_measure q_t_planned q_t_came t_thrown t_oldMany t_savedSet t_inputMany t_outputMany t_errorCode t_errorPosition t_top t_ahead t_round t_loudest t_textEnd t_kind t_from t_to t_value t_fault t_faultAt t_now t_rank) → va_S A s.heap H locs → lv_has ls 5 [(3, .int v3)] → W p l e (rm_X6_comesBack) s m args below meth c H locs 0 0 Q (F0 m 38 ls []))  (n : Nat) (v3 : Int32) (v4 : Int32) (t_rank : (Nat → Int32)) (H : Heap) (locs : List Loc) (ls : Array Slot), fx3 (F_X6_comesBack_8 v1 v2 t_now K0) n v3 v4 t_rank → va_P D vwCl (wd_X6_comesBack cI cZ cB cG q_t q_t_now q_t_rank q_t_keys q_t_aside q_t_old q_t_saved q_t_input q_t_output q_t_live q_t_weight q_t_measure q_t_planned q_t_came t_thrown t_oldMany t_savedSet t_inputMany t_outputMany t_errorCode t_errorPosition t_top t_ahead t_round t_loudest t_textEnd t_kind t_from t_to t_value t_fault t_faultAt t_now t_rank) H → va_D A (wd_X6_comesBack cI cZ cB cG q_t q_t_now q_t_rank q_t_keys q_t_aside q_t_old q_t_saved q_t_input q_t_output q_t_live q_t_weight q_t_measure q_t_planned q_t_came t_thrown t_oldMany t_savedSet t_inputMany t_outputMany t_errorCode t_errorPosition t_top t_ahead t_round t_loudest t_textEnd t_kind t_from t_to t_value t_fault t_faultAt t_now t_rank) → va_S A s.heap H locs → lv_has ls 5 [(0, .ref q_t), (1, .int v1), (2, .int v2), (3, .int v3), (4, .int v4)] → W p l e (rm_X6_comesBack) s m args below meth c H locs 0 0 Q (F0 m 8 ls []) := by
    intro v1 v2 K0 hK0 n
    induction n with
    | zero => intro v3 v4 t_rank H locs ls hf; exact (hf : False).elim
    | succ n ih =>
      intro v3 v4 t_rank H locs ls hf hP hD hS hl
      have hf : F_X6_comesBack_8 v1 v2 t_now K0 (fx3 (F_X6_comesBack_8 v1 v2 t_now K0) n) v3 v4 t_rank := hf
      unfold F_X6_comesBack_8 at hf
      refine lv_iload_n hx hb dX6_comesBack_8 rfl (lv_at hl 3 rfl) ?_
      refine lv_iload hx hb dX6_comesBack_9 (lv_at hl 4 rfl) ?_
      refine lv_icmp_eq (tgt := 38) hx hb dX6_comesBack_11 (by decide) (fun hc => ?_) (fun hc => ?_)
      · have hf := hf.1 hc
        exact hK0 _ _ _ _ _ _ hf hP hD hS (lv_sub hl [3] rfl)
      · have hf := hf.2 hc
        refine lv_iload_n hx hb dX6_comesBack_14 rfl (lv_at hl 3 rfl) ?_
        refine lv_istore (lv' := [(4, .int v3), (0, .ref q_t), (1, .int v1), (2, .int v2), (3, .int v3)]) hx hb dX6_comesBack_15 hl (by decide) rfl (fun ls hl => ?_)
        refine lv_aload_n hx hb dX6_comesBack_17 rfl (lv_at hl 1 rfl) ?_
        refine lv_iload_n hx hb dX6_comesBack_18 rfl (lv_at hl 2 rfl) ?_
        refine lv_iload_n hx hb dX6_comesBack_19 rfl (lv_at hl 3 rfl) ?_
        refine lv_aload_n hx hb dX6_comesBack_20 rfl (lv_at hl 1 rfl) ?_
        refine lv_iload_n hx hb dX6_comesBack_21 rfl (lv_at hl 2 rfl) ?_
        refine lv_iload hx hb dX6_comesBack_22 (lv_at hl 0 rfl) ?_
        have hPc := hP.sub (ws' := (wd_X6_forcing cI cZ cB cG q_t q_t_now q_t_keys q_t_aside q_t_old q_t_saved q_t_input q_t_output q_t_live q_t_weight q_t_measure q_t_planned q_t_came q_t_rank t_thrown t_oldMany t_savedSet t_inputMany t_outputMany t_errorCode t_errorPosition t_top t_ahead t_round t_loudest t_textEnd t_kind t_from t_to t_value t_fault t_faultAt t_now)) [0, 1] rfl
        have hDc := hD.sub (ws' := (wd_X6_forcing cI cZ cB cG q_t q_t_now q_t_keys q_t_aside q_t_old q_t_saved q_t_input q_t_output q_t_live q_t_weight q_t_measure q_t_planned q_t_came q_t_rank t_thrown t_oldMany t_savedSet t_inputMany t_outputMany t_errorCode t_errorPosition t_top t_ahead t_round t_loudest t_textEnd t_kind t_from t_to t_value t_fault t_faultAt t_now)) [0, 1] (by decide +kernel) rfl
        have hFc := va_free (wc := (wd_X6_forcing cI cZ cB cG q_t q_t_now q_t_keys q_t_aside q_t_old q_t_saved q_t_input q_t_output q_t_live q_t_weight q_t_measure q_t_planned q_t_came q_t_rank t_thrown t_oldMany t_savedSet t_inputMany t_outputMany t_errorCode t_errorPosition t_top t_ahead t_round t_loudest t_textEnd t_kind t_from t_to t_value t_fault t_faultAt t_now)) hD hS hA [0, 1] rfl
        refine va_calli (va_runV (As := [.int v1, .int v3]) (rest := [.int v2, .int v1, .ref q_t]) ⟨hx, hb, hml, hown, hts⟩ (c_X6_forcing l D X cI cZ cB cG H.size q_t q_t_now q_t_keys q_t_aside q_t_old q_t_saved q_t_input q_t_output q_t_live q_t_weight q_t_measure q_t_planned q_t_came q_t_rank v1 v3 t_thrown t_oldMany t_savedSet t_inputMany t_outputMany t_errorCode t_errorPosition t_top t_ahead t_round t_loudest t_textEnd t_kind t_from t_to t_value t_fault t_faultAt t_now _ hf) (cwV 2 hts gX6_comesBack_X6_forcing rfl rfl rfl (by decide +kernel) ⟨Nat.le_of_ble_eq_true rfl, Nat.le_of_ble_eq_true rfl⟩) ⟨g_blind, va_recv hK hPc (ci := 6) (q0 := 0) rfl rfl, fun U hU hW => g_side hU hW hPc hK hDc hE hS hFc⟩ rfl rfl hl.1 rfl (lv_room (Nat.le_of_ble_eq_true rfl)) dX6_comesBack_24 ⟨Nat.zero_le _, Nat.zero_le _⟩) hS (fun q _ h => hFc q h) hFc (fun r_5 u t H1 locs ht hvm hw hB hz1 hk1 hS => ?_)
        obtain ⟨hP1, hK1, hD1⟩ := hB
        rw [ht] at hP1
        obtain ⟨hP, hD⟩ := g_back (wc := (wd_X6_forcing cI cZ cB cG q_t q_t_now q_t_keys q_t_aside q_t_old q_t_saved q_t_input q_t_output q_t_live q_t_weight q_t_measure q_t_planned q_t_came q_t_rank t_thrown t_oldMany t_savedSet t_inputMany t_outputMany t_errorCode t_errorPosition t_top t_ahead t_round t_loudest t_textEnd t_kind t_from t_to t_value t_fault t_faultAt t_now)) (w1 := (wd_X6_forcing cI cZ cB cG q_t q_t_now q_t_keys q_t_aside q_t_old q_t_saved q_t_input q_t_output q_t_live q_t_weight q_t_measure q_t_planned q_t_came q_t_rank t_thrown t_oldMany t_savedSet t_inputMany t_outputMany t_errorCode t_errorPosition t_top t_ahead t_round t_loudest t_textEnd t_kind t_from t_to t_value t_fault t_faultAt t_now)) hP hD [0, 1] rfl rfl hk1 hP1
        have hP : va_P D vwCl (wd_X6_comesBack cI cZ cB cG q_t q_t_now q_t_rank q_t_keys q_t_aside q_t_old q_t_saved q_t_input q_t_output q_t_live q_t_weight q_t_measure q_t_planned q_t_came t_thrown t_oldMany t_savedSet t_inputMany t_outputMany t_errorCode t_errorPosition t_top t_ahead t_round t_loudest t_textEnd t_kind t_from t_to t_value t_fault t_faultAt t_now t_rank) H1 := hP
        have hD : va_D A (wd_X6_comesBack cI cZ cB cG q_t q_t_now q_t_rank q_t_keys q_t_aside q_t_old q_t_saved q_t_input q_t_output q_t_live q_t_weight q_t_measure q_t_planned q_t_came t_thrown t_oldMany t_savedSet t_inputMany t_outputMany t_errorCode t_errorPosition t_top t_ahead t_round t_loudest t_textEnd t_kind t_from t_to t_value t_fault t_faultAt t_now t_rank) := hD
        have hf := hw
        generalize H1 = H at hP hS ⊢
        refine lv_iand hx hb dX6_comesBack_27 ?_
        have hPc := hP.sub (ws' := (wd_X6_pulls cI cZ cB cG q_t q_t_now q_t_rank q_t_keys q_t_aside q_t_old q_t_saved q_t_input q_t_output q_t_live q_t_weight q_t_measure q_t_planned q_t_came t_thrown t_oldMany t_savedSet t_inputMany t_outputMany t_errorCode t_errorPosition t_top t_ahead t_round t_loudest t_textEnd t_kind t_from t_to t_value t_fault t_faultAt t_now t_rank)) [0, 1, 2] rfl
        have hDc := hD.sub (ws' := (wd_X6_pulls cI cZ cB cG q_t q_t_now q_t_rank q_t_keys q_t_aside q_t_old q_t_saved q_t_input q_t_output q_t_live q_t_weight q_t_measure q_t_planned q_t_came t_thrown t_oldMany t_savedSet t_inputMany t_outputMany t_errorCode t_errorPosition t_top t_ahead t_round t_loudest t_textEnd t_kind t_from t_to t_value t_fault t_faultAt t_now t_rank)) [0, 1, 2] (by decide +kernel) rfl
        have hFc := va_free (wc := (wd_X6_pulls cI cZ cB cG q_t q_t_now q_t_rank q_t_keys q_t_aside q_t_old q_t_saved q_t_input q_t_output q_t_live q_t_weight q_t_measure q_t_planned q_t_came t_thrown t_oldMany t_savedSet t_inputMany t_outputMany t_errorCode t_errorPosition t_top t_ahead t_round t_loudest t_textEnd t_kind t_from t_to t_value t_fault t_faultAt t_now t_rank)) hD hS hA [0, 1, 2] rfl
        refine va_calli (va_runV (As := [.int v1, .int (v2 &&& r_5)]) (rest := []) ⟨hx, hb, hml, hown, hts⟩ (c_X6_pulls l D X cI cZ cB cG H.size q_t q_t_now q_t_rank q_t_keys q_t_aside q_t_old q_t_saved q_t_input q_t_output q_t_live q_t_weight q_t_measure q_t_planned q_t_came v1 (v2 &&& r_5) t_thrown t_oldMany t_savedSet t_inputMany t_outputMany t_errorCode t_errorPosition t_top t_ahead t_round t_loudest t_textEnd t_kind t_from t_to t_value t_fault t_faultAt t_now t_rank _ hf) (cwV 2 hts gX6_comesBack_X6_pulls rfl rfl rfl (by decide +kernel) ⟨Nat.le_of_ble_eq_true rfl, Nat.le_of_ble_eq_true rfl⟩) ⟨g_blind, va_recv hK hPc (ci := 6) (q0 := 0) rfl rfl, fun U hU hW => g_side hU hW hPc hK hDc hE hS hFc⟩ rfl rfl hl.1 rfl (lv_room (Nat.le_of_ble_eq_true rfl)) dX6_comesBack_28 ⟨Nat.zero_le _, Nat.zero_le _⟩) hS (fun q _ h => hFc q h) hFc (fun r_6 u t H1 locs ht hvm hw hB hz1 hk1 hS => ?_)
        obtain ⟨t_rank_7, rfl⟩ : ∃ z, z = u := ⟨_, rfl⟩
        obtain ⟨hP1, hK1, hD1⟩ := hB
        rw [ht] at hP1
        obtain ⟨hP, hD⟩ := g_back (wc := (wd_X6_pulls cI cZ cB cG q_t q_t_now q_t_rank q_t_keys q_t_aside q_t_old q_t_saved q_t_input q_t_output q_t_live q_t_weight q_t_measure q_t_planned q_t_came t_thrown t_oldMany t_savedSet t_inputMany t_outputMany t_errorCode t_errorPosition t_top t_ahead t_round t_loudest t_textEnd t_kind t_from t_to t_value t_fault t_faultAt t_now t_rank)) (w1 := (wd_X6_pulls cI cZ cB cG q_t q_t_now q_t_rank q_t_keys q_t_aside q_t_old q_t_saved q_t_input q_t_output q_t_live q_t_weight q_t_measure q_t_planned q_t_came t_thrown t_oldMany t_savedSet t_inputMany t_outputMany t_errorCode t_errorPosition t_top t_ahead t_round t_loudest t_textEnd t_kind t_from t_to t_value t_fault t_faultAt t_now t_rank_7)) hP hD [0, 1, 2] rfl rfl hk1 hP1
        have hP : va_P D vwCl (wd_X6_comesBack cI cZ cB cG q_t q_t_now q_t_rank q_t_keys q_t_aside q_t_old q_t_saved q_t_input q_t_output q_t_live q_t_weight q_t_measure q_t_planned q_t_came t_thrown t_oldMany t_savedSet t_inputMany t_outputMany t_errorCode t_errorPosition t_top t_ahead t_round t_loudest t_textEnd t_kind t_from t_to t_value t_fault t_faultAt t_now t_rank_7) H1 := hP
        have hD : va_D A (wd_X6_comesBack cI cZ cB cG q_t q_t_now q_t_rank q_t_keys q_t_aside q_t_old q_t_saved q_t_input q_t_output q_t_live q_t_weight q_t_measure q_t_planned q_t_came t_thrown t_oldMany t_savedSet t_inputMany t_outputMany t_errorCode t_errorPosition t_top t_ahead t_round t_loudest t_textEnd t_kind t_from t_to t_value t_fault t_faultAt t_now t_rank_7) := hD
        have hf := hw
        generalize H1 = H at hP hS ⊢
        refine lv_iload hx hb dX6_comesBack_31 (lv_at hl 0 rfl) ?_
        refine lv_iand hx hb dX6_comesBack_33 ?_
        refine lv_istore_n (lv' := [(3, .int (r_6 &&& v3)), (4, .int v3), (0, .ref q_t), (1, .int v1), (2, .int v2)]) hx hb dX6_comesBack_34 rfl hl (by decide) rfl (fun ls hl => ?_)
        refine lv_goto (tgt := 8) hx hb dX6_comesBack_35 (by decide) ?_
        exact ih _ _ _ _ _ _ hf hP hD hS (lv_sub hl [2, 3, 4, 0, 1] rfl)
  unfold wp_X6_comesBack at hf
  refine lv_aload_n hx hb dX6_comesBack_0 rfl (lv_at hl 0 rfl) ?_
  have hPc := hP.sub (ws' := (wd_X6_all cI cZ cB cG q_t q_t_now q_t_keys q_t_aside q_t_old q_t_saved q_t_input q_t_output q_t_live q_t_weight q_t_measure q_t_planned q_t_came q_t_rank t_thrown t_oldMany t_savedSet t_inputMany t_outputMany t_errorCode t_errorPosition t_top t_ahead t_round t_loudest t_textEnd t_kind t_from t_to t_value t_fault t_faultAt t_now)) [0, 1] rfl
  have hDc := hD.sub (ws' := (wd_X6_all cI cZ cB cG q_t q_t_now q_t_keys q_t_aside q_t_old q_t_saved q_t_input q_t_output q_t_live q_t_weight q_t_measure q_t_planned q_t_came q_t_rank t_thrown t_oldMany t_savedSet t_inputMany t_outputMany t_errorCode t_errorPosition t_top t_ahead t_round t_loudest t_textEnd t_kind t_from t_to t_value t_fault t_faultAt t_now)) [0, 1] (by decide +kernel) rfl
  have hFc := va_free (wc := (wd_X6_all cI cZ cB cG q_t q_t_now q_t_keys q_t_aside q_t_old q_t_saved q_t_input q_t_output q_t_live q_t_weight q_t_measure q_t_planned q_t_came q_t_rank t_thrown t_oldMany t_savedSet t_inputMany t_outputMany t_errorCode t_errorPosition t_top t_ahead t_round t_loudest t_textEnd t_kind t_from t_to t_value t_fault t_faultAt t_now)) hD hS hA [0, 1] rfl
  refine va_calli (va_runV (As := []) (rest := []) ⟨hx, hb, hml, hown, hts⟩ (c_X6_all l D X cI cZ cB cG H.size q_t q_t_now q_t_keys q_t_aside q_t_old q_t_saved q_t_input q_t_output q_t_live q_t_weight q_t_measure q_t_planned q_t_came q_t_rank t_thrown t_oldMany t_savedSet t_inputMany t_outputMany t_errorCode t_errorPosition t_top t_ahead t_round t_loudest t_textEnd t_kind t_from t_to t_value t_fault t_faultAt t_now _ hf) (cwV 0 hts gX6_comesBack_X6_all rfl rfl rfl (by decide +kernel) ⟨Nat.le_of_ble_eq_true rfl, Nat.le_of_ble_eq_true rfl⟩) ⟨g_blind, va_recv hK hPc (ci := 6) (q0 := 0) rfl rfl, fun U hU hW => g_side hU hW hPc hK hDc hE hS hFc⟩ rfl rfl hl.1 rfl (lv_room (Nat.le_of_ble_eq_true rfl)) dX6_comesBack_1 ⟨Nat.zero_le _, Nat.zero_le _⟩) hS (fun q _ h => hFc q h) hFc (fun r_4 u t H1 locs ht hvm hw hB hz1 hk1 hS => ?_)
  obtain ⟨hP1, hK1, hD1⟩ := hB
  rw [ht] at hP1
  obtain ⟨hP, hD⟩ := g_back (wc := (wd_X6_all cI cZ cB cG q_t q_t_now q_t_keys q_t_aside q_t_old q_t_saved q_t_input q_t_output q_t_live q_t_weight q_t_measure q_t_planned q_t_came q_t_rank t_thrown t_oldMany t_savedSet t_inputMany t_outputMany t_errorCode t_errorPosition t_top t_ahead t_round t_loudest t_textEnd t_kind t_from t_to t_value t_fault t_faultAt t_now)) (w1 := (wd_X6_all cI cZ cB cG q_t q_t_now q_t_keys q_t_aside q_t_old q_t_saved q_t_input q_t_output q_t_live q_t_weight q_t_measure q_t_planned q_t_came q_t_rank t_thrown t_oldMany t_savedSet t_inputMany t_outputMany t_errorCode t_errorPosition t_top t_ahead t_round t_loudest t_textEnd t_kind t_from t_to t_value t_fault t_faultAt t_now)) hP hD [0, 1] rfl rfl hk1 hP1
  have hP : va_P D vwCl (wd_X6_comesBack cI cZ cB cG q_t q_t_now q_t_rank q_t_keys q_t_aside q_t_old q_t_saved q_t_input q_t_output q_t_live q_t_weight q_t_measure q_t_planned q_t_came t_thrown t_oldMany t_savedSet t_inputMany t_outputMany t_errorCode t_errorPosition t_top t_ahead t_round t_loudest t_textEnd t_kind t_from t_to t_value t_fault t_faultAt t_now t_rank) H1 := hP
  have hD : va_D A (wd_X6_comesBack cI cZ cB cG q_t q_t_now q_t_rank q_t_keys q_t_aside q_t_old q_t_saved q_t_input q_t_output q_t_live q_t_weight q_t_measure q_t_planned q_t_came t_thrown t_oldMany t_savedSet t_inputMany t_outputMany t_errorCode t_errorPosition t_top t_ahead t_round t_loudest t_textEnd t_kind t_from t_to t_value t_fault t_faultAt t_now t_rank) := hD
  have hf := hw
  generalize H1 = H at hP hS ⊢
  refine lv_istore_n (lv' := [(3, .int r_4), (0, .ref q_t), (1, .int a1), (2, .int a2)]) hx hb dX6_comesBack_4 rfl hl (by decide) rfl (fun ls hl => ?_)
  refine lv_iconst (v := (-1 : Int32)) hx hb dX6_comesBack_5 (by decide) ?_
  refine lv_istore (lv' := [(4, .int (-1 : Int32)), (3, .int r_4), (0, .ref q_t), (1, .int a1), (2, .int a2)]) hx hb dX6_comesBack_6 hl (by decide) rfl (fun ls hl => ?_)
  obtain ⟨n, hf⟩ := hf
  refine L8 a1 a2 _ ?_  n _ _ _ _ _ _ hf hP hD hS (lv_sub hl [2, 3, 4, 1, 0] rfl)
  intro v3_8 v4_9 t_rank_10 H locs ls hf hP hD hS hl
  refine lv_iload_n hx hb dX6_comesBack_38 rfl (lv_at hl 0 rfl) ?_
  exact hret v3_8 t_rank_10 hf hP hD hS dX6_comesBack_39
abbrev wd_X6_remembers (cI cZ cB cG : ClassId) (q_t : Nat) (q_t_now : Nat) (q_t_old : Nat) (q_t_keys : Nat) (q_t_aside : Nat) (q_t_saved : Nat) (q_t_input : Nat) (q_t_output : Nat) (q_t_live : Nat) (q_t_weight : Nat) (q_t_measure : Nat) (q_t_planned : Nat) (q_t_came : Nat) (q_t_rank : Nat) (t_thrown : Int32) (t_oldMany : Int32) (t_savedSet : Int32) (t_inputMany : Int32) (t_outputMany : Int32) (t_errorCode : Int32) (t_errorPosition : Int32) (t_top : Int32) (t_ahead : Int32) (t_round : Int32) (t_loudest : Int32) (t_textEnd : Int32) (t_kind : Int32) (t_from : Int32) (t_to : Int32) (t_value : Int32) (t_fault : Int32) (t_faultAt : Int32) (t_now : (Nat → Int32)) (t_old : (Nat → Int32)) : va_W := [(q_t, .inr (6, [.ref q_t_keys, .int t_thrown, .ref q_t_now, .ref q_t_aside, .ref q_t_old, .int t_oldMany, .ref q_t_saved, .int t_savedSet, .ref q_t_input, .int t_inputMany, .ref q_t_output, .int t_outputMany, .int t_errorCode, .int t_errorPosition, .ref q_t_live, .ref q_t_weight, .ref q_t_measure, .int t_top, .ref q_t_planned, .ref q_t_came, .ref q_t_rank, .int t_ahead, .int t_round, .int t_loudest, .int t_textEnd, .int t_kind, .int t_from, .int t_to, .int t_value, .int t_fault, .int t_faultAt])), (q_t_now, .inl (cI, 176, .inl t_now)), (q_t_old, .inl (cI, 1760, .inl t_old))]
def F_X6_remembers_54 (t_oldMany : Int32) (t_now : (Nat → Int32)) (K0 : Int32 → (Nat → Int32) → Prop) (rec : Int32 → (Nat → Int32) → Prop) (v1 : Int32) (t_old : (Nat → Int32)) : Prop := (((176 : Int32) ≤ v1 → (K0 v1 t_old)) ∧ (¬ ((176 : Int32) ≤ v1) → (vp_in v1 176 ∧ (vp_in (((t_oldMany * (176 : Int32)) + v1)) 1760 ∧ (rec ((v1 + (1 : Int32))) ((upd t_old (((t_oldMany * (176 : Int32)) + v1)).toNatClampNeg (t_now v1.toNatClampNeg))))))))
def F_X6_remembers_13 (K0 : Int32 → (Nat → Int32) → Prop) (rec : Int32 → (Nat → Int32) → Prop) (v1 : Int32) (t_old : (Nat → Int32)) : Prop := (((1760 : Int32) ≤ v1 → (K0 v1 t_old)) ∧ (¬ ((1760 : Int32) ≤ v1) → (vp_in v1 1760 ∧ (vp_in ((v1 - (176 : Int32))) 1760 ∧ (rec ((v1 + (1 : Int32))) ((upd t_old ((v1 - (176 : Int32))).toNatClampNeg (t_old v1.toNatClampNeg))))))))
def wp_X6_remembers (t_oldMany : Int32) (t_now : (Nat → Int32)) (t_old : (Nat → Int32)) (post : Int32 → (Nat → Int32) → Prop) : Prop := ((¬ t_oldMany = (10 : Int32) → (∃ n, fx2 (F_X6_remembers_54 t_oldMany t_now (fun v1_1 t_old_2 => (post ((t_oldMany + (1 : Int32))) t_old_2))) n (0 : Int32) t_old)) ∧ (t_oldMany = (10 : Int32) → (∃ n, fx2 (F_X6_remembers_13 (fun v1_3 t_old_4 => (∃ n, fx2 (F_X6_remembers_54 ((t_oldMany - (1 : Int32))) t_now (fun v1_5 t_old_6 => (post (((t_oldMany - (1 : Int32)) + (1 : Int32))) t_old_6))) n (0 : Int32) t_old_4))) n (176 : Int32) t_old)))
abbrev rm_X6_remembers : Room := { frames := 1, cells := 0, slots := 0, locals := 80 }
theorem in_X6_remembers_X6 : ∀ w ∈ u_ws RX6 TX6 31, w ∈ wsX6_remembers := by decide +kernel
theorem k_X6_remembers_13 : Cond.fieldLink RX6 13 "ParityGameModel" "now" "[I" ∈ wsX6_remembers := by decide +kernel
theorem k_X6_remembers_19 : Cond.fieldLink RX6 19 "ParityGameModel" "old" "[I" ∈ wsX6_remembers := by decide +kernel
theorem k_X6_remembers_136 : Cond.fieldLink RX6 136 "ParityGameModel" "oldMany" "I" ∈ wsX6_remembers := by decide +kernel
set_option maxHeartbeats 40000000 in
set_option maxRecDepth 100000 in
theorem c_X6_remembers (l : Launch) (D : va_G) (X : gX) (cI cZ cB cG : ClassId) (sz : Nat) (q_t : Nat) (q_t_now : Nat) (q_t_old : Nat) (q_t_keys : Nat) (q_t_aside : Nat) (q_t_saved : Nat) (q_t_input : Nat) (q_t_output : Nat) (q_t_live : Nat) (q_t_weight : Nat) (q_t_measure : Nat) (q_t_planned : Nat) (q_t_came : Nat) (q_t_rank : Nat) (t_thrown : Int32) (t_oldMany : Int32) (t_savedSet : Int32) (t_inputMany : Int32) (t_outputMany : Int32) (t_errorCode : Int32) (t_errorPosition : Int32) (t_top : Int32) (t_ahead : Int32) (t_round : Int32) (t_loudest : Int32) (t_textEnd : Int32) (t_kind : Int32) (t_from : Int32) (t_to : Int32) (t_value : Int32) (t_fault : Int32) (t_faultAt : Int32) (t_now : (Nat → Int32)) (t_old : (Nat → Int32)) (post : Int32 → (Nat → Int32) → Prop) (hf : wp_X6_remembers t_oldMany t_now t_old post) : Met l yX6_remembers wsX6_remembers rm_X6_remembers (gP D X (gT cI cZ cB cG) sz [.ref q_t] (wd_X6_remembers cI cZ cB cG q_t q_t_now q_t_old q_t_keys q_t_aside q_t_saved q_t_input q_t_output q_t_live q_t_weight q_t_measure q_t_planned q_t_came q_t_rank t_thrown t_oldMany t_savedSet t_inputMany t_outputMany t_errorCode t_errorPosition t_top t_ahead t_round t_loudest t_textEnd t_kind t_from t_to t_value t_fault t_faultAt t_now t_old)) (va_Qv (fun (u : Int32 × (Nat → Int32)) => post u.1 u.2) (fun u t => gB D (gT cI cZ cB cG) (va_A (wd_X6_remembers cI cZ cB cG q_t q_t_now q_t_old q_t_keys q_t_aside q_t_saved q_t_input q_t_output q_t_live q_t_weight q_t_measure q_t_planned q_t_came q_t_rank t_thrown t_oldMany t_savedSet t_inputMany t_outputMany t_errorCode t_errorPosition t_top t_ahead t_round t_loudest t_textEnd t_kind t_from t_to t_value t_fault t_faultAt t_now t_old) sz) (wd_X6_remembers cI cZ cB cG q_t q_t_now q_t_old q_t_keys q_t_aside q_t_saved q_t_input q_t_output q_t_live q_t_weight q_t_measure q_t_planned q_t_came q_t_rank t_thrown u.1 t_savedSet t_inputMany t_outputMany t_errorCode t_errorPosition t_top t_ahead t_round t_loudest t_textEnd t_kind t_from t_to t_value t_fault t_faultAt t_now u.2) t) (va_A (wd_X6_remembers cI cZ cB cG q_t q_t_now q_t_old q_t_keys q_t_aside q_t_saved q_t_input q_t_output q_t_live q_t_weight q_t_measure q_t_planned q_t_came q_t_rank t_thrown t_oldMany t_savedSet t_inputMany t_outputMany t_errorCode t_errorPosition t_top t_ahead t_round t_loudest t_textEnd t_kind t_from t_to t_value t_fault t_faultAt t_now t_old) sz)) 0 0 (va_A (wd_X6_remembers cI cZ cB cG q_t q_t_now q_t_old q_t_keys q_t_aside q_t_saved q_t_input q_t_output q_t_live q_t_weight q_t_measure q_t_planned q_t_came q_t_rank t_thrown t_oldMany t_savedSet t_inputMany t_outputMany t_errorCode t_errorPosition t_top t_ahead t_round t_loudest t_textEnd t_kind t_from t_to t_value t_fault t_faultAt t_now t_old) sz) := by
  refine g_ofWv (cc := cX6_remembers) (maxL := 2) (by decide +kernel) (Nat.le_of_ble_eq_true rfl) rfl ?_
  intro p e s m args below meth c A Q hx hb hml hown hts hA hK hE H hP hD hS ls hl hret
  have hinX6 := in_X6_remembers_X6
  have k13 := hts _ k_X6_remembers_13
  have k19 := hts _ k_X6_remembers_19
  have k136 := hts _ k_X6_remembers_136
  have hl : lv_has ls 2 [(0, .ref q_t)] := hl
  have L54 : ∀ (t_oldMany : Int32) (K0 : Int32 → (Nat → Int32) → Prop) (_ : ∀ (v1 : Int32) (t_old : (Nat → Int32)) (H : Heap) (locs : List Loc) (ls : Array Slot), K0 v1 t_old → va_P D vwCl (wd_X6_remembers cI cZ cB cG q_t q_t_now q_t_old q_t_keys q_t_aside q_t_saved q_t_input q_t_output q_t_live q_t_weight q_t_measure q_t_planned q_t_came q_t_rank t_thrown t_oldMany t_savedSet t_inputMany t_outputMany t_errorCode t_errorPosition t_top t_ahead t_round t_loudest t_textEnd t_kind t_from t_to t_value t_fault t_faultAt t_now t_old) H → va_D A (wd_X6_remembers cI cZ cB cG q_t q_t_now q_t_old q_t_keys q_t_aside q_t_saved q_t_input q_t_output q_t_live q_t_weight q_t_measure q_t_planned q_t_came q_t_rank t_thrown t_oldMany t_savedSet t_inputMany t_outputMany t_errorCode t_errorPosition t_top t_ahead t_round t_loudest t_textEnd t_kind t_from t_to t_value t_fault t_faultAt t_now t_old) → va_S A s.heap H locs → lv_has ls 2 [(0, .ref q_t)] → W p l e (rm_X6_remembers) s m args below meth c H locs 0 0 Q (F0 m 88 ls []))  (n : Nat) (v1 : Int32) (t_old : (Nat → Int32)) (H : Heap) (locs : List Loc) (ls : Array Slot), fx2 (F_X6_remembers_54 t_oldMany t_now K0) n v1 t_old → va_P D vwCl (wd_X6_remembers cI cZ cB cG q_t q_t_now q_t_old q_t_keys q_t_aside q_t_saved q_t_input q_t_output q_t_live q_t_weight q_t_measure q_t_planned q_t_came q_t_rank t_thrown t_oldMany t_savedSet t_inputMany t_outputMany t_errorCode t_errorPosition t_top t_ahead t_round t_loudest t_textEnd t_kind t_from t_to t_value t_fault t_faultAt t_now t_old) H → va_D A (wd_X6_remembers cI cZ cB cG q_t q_t_now q_t_old q_t_keys q_t_aside q_t_saved q_t_input q_t_output q_t_live q_t_weight q_t_measure q_t_planned q_t_came q_t_rank t_thrown t_oldMany t_savedSet t_inputMany t_outputMany t_errorCode t_errorPosition t_top t_ahead t_round t_loudest t_textEnd t_kind t_from t_to t_value t_fault t_faultAt t_now t_old) → va_S A s.heap H locs → lv_has ls 2 [(0, .ref q_t), (1, .int v1)] → W p l e (rm_X6_remembers) s m args below meth c H locs 0 0 Q (F0 m 54 ls []) := by
    intro t_oldMany K0 hK0 n
    induction n with
    | zero => intro v1 t_old H locs ls hf; exact (hf : False).elim
    | succ n ih =>
      intro v1 t_old H locs ls hf hP hD hS hl
      have hf : F_X6_remembers_54 t_oldMany t_now K0 (fx2 (F_X6_remembers_54 t_oldMany t_now K0) n) v1 t_old := hf
      unfold F_X6_remembers_54 at hf
      refine lv_iload_n hx hb dX6_remembers_54 rfl (lv_at hl 1 rfl) ?_
      refine lv_sipush (v := (176 : Int32)) hx hb dX6_remembers_55 (by decide) ?_
      refine lv_icmp_ge (tgt := 88) hx hb dX6_remembers_58 (by decide) (fun hc => ?_) (fun hc => ?_)
      · have hf := hf.1 hc
        exact hK0 _ _ _ _ _ hf hP hD hS (lv_sub hl [0] rfl)
      · have hf := hf.2 hc
        refine lv_aload_n hx hb dX6_remembers_61 rfl (lv_at hl 0 rfl) ?_
        refine va_get (D := D) (ci := 6) (v := .ref q_t_old) (C := RX6) (T := TX6) (N := 31) hx hb hts hinX6 hown hK hP 0 rfl rfl 4 (by decide) k19 (fun _ h9 => h9) rfl dX6_remembers_62 ?_
        refine lv_aload_n hx hb dX6_remembers_65 rfl (lv_at hl 0 rfl) ?_
        refine va_get (D := D) (ci := 6) (v := .int t_oldMany) (C := RX6) (T := TX6) (N := 31) hx hb hts hinX6 hown hK hP 0 rfl rfl 5 (by decide) k136 (fun _ h9 => h9) rfl dX6_remembers_66 ?_
        refine lv_sipush (v := (176 : Int32)) hx hb dX6_remembers_69 (by decide) ?_
        refine lv_imul hx hb dX6_remembers_72 ?_
        refine lv_iload_n hx hb dX6_remembers_73 rfl (lv_at hl 1 rfl) ?_
        refine lv_iadd hx hb dX6_remembers_74 ?_
        refine lv_aload_n hx hb dX6_remembers_75 rfl (lv_at hl 0 rfl) ?_
        refine va_get (D := D) (ci := 6) (v := .ref q_t_now) (C := RX6) (T := TX6) (N := 31) hx hb hts hinX6 hown hK hP 0 rfl rfl 2 (by decide) k13 (fun _ h9 => h9) rfl dX6_remembers_76 ?_
        refine lv_iload_n hx hb dX6_remembers_79 rfl (lv_at hl 1 rfl) ?_
        refine va_iald hx hb hK hP 1 0 rfl rfl (n := 176) hf.1 dX6_remembers_80 ?_
        have hf := hf.2
        refine va_iast hx hb hK hP hD hS 2 0 rfl rfl (n := 1760) hf.1 dX6_remembers_81 (fun H locs hP hD hS => ?_)
        have hf := hf.2
        have hP : va_P D vwCl (wd_X6_remembers cI cZ cB cG q_t q_t_now q_t_old q_t_keys q_t_aside q_t_saved q_t_input q_t_output q_t_live q_t_weight q_t_measure q_t_planned q_t_came q_t_rank t_thrown t_oldMany t_savedSet t_inputMany t_outputMany t_errorCode t_errorPosition t_top t_ahead t_round t_loudest t_textEnd t_kind t_from t_to t_value t_fault t_faultAt t_now ((upd t_old (((t_oldMany * (176 : Int32)) + v1)).toNatClampNeg (t_now v1.toNatClampNeg)))) H := hP
        have hD : va_D A (wd_X6_remembers cI cZ cB cG q_t q_t_now q_t_old q_t_keys q_t_aside q_t_saved q_t_input q_t_output q_t_live q_t_weight q_t_measure q_t_planned q_t_came q_t_rank t_thrown t_oldMany t_savedSet t_inputMany t_outputMany t_errorCode t_errorPosition t_top t_ahead t_round t_loudest t_textEnd t_kind t_from t_to t_value t_fault t_faultAt t_now ((upd t_old (((t_oldMany * (176 : Int32)) + v1)).toNatClampNeg (t_now v1.toNatClampNeg)))) := hD
        refine lv_iinc (v := (v1 + (1 : Int32))) (lv' := [(1, .int ((v1 + (1 : Int32)))), (0, .ref q_t)]) hx hb dX6_remembers_82 hl (k := 1) rfl rfl (by decide) rfl (fun ls hl => ?_)
        refine lv_goto (tgt := 54) hx hb dX6_remembers_85 (by decide) ?_
        exact ih _ _ _ _ _ hf hP hD hS (lv_sub hl [1, 0] rfl)
  have L13 : ∀ (t_oldMany : Int32) (K0 : Int32 → (Nat → Int32) → Prop) (_ : ∀ (v1 : Int32) (t_old : (Nat → Int32)) (H : Heap) (locs : List Loc) (ls : Array Slot), K0 v1 t_old → va_P D vwCl (wd_X6_remembers cI cZ cB cG q_t q_t_now q_t_old q_t_keys q_t_aside q_t_saved q_t_input q_t_output q_t_live q_t_weight q_t_measure q_t_planned q_t_came q_t_rank t_thrown t_oldMany t_savedSet t_inputMany t_outputMany t_errorCode t_errorPosition t_top t_ahead t_round t_loudest t_textEnd t_kind t_from t_to t_value t_fault t_faultAt t_now t_old) H → va_D A (wd_X6_remembers cI cZ cB cG q_t q_t_now q_t_old q_t_keys q_t_aside q_t_saved q_t_input q_t_output q_t_live q_t_weight q_t_measure q_t_planned q_t_came q_t_rank t_thrown t_oldMany t_savedSet t_inputMany t_outputMany t_errorCode t_errorPosition t_top t_ahead t_round t_loudest t_textEnd t_kind t_from t_to t_value t_fault t_faultAt t_now t_old) → va_S A s.heap H locs → lv_has ls 2 [(0, .ref q_t)] → W p l e (rm_X6_remembers) s m args below meth c H locs 0 0 Q (F0 m 42 ls []))  (n : Nat) (v1 : Int32) (t_old : (Nat → Int32)) (H : Heap) (locs : List Loc) (ls : Array Slot), fx2 (F_X6_remembers_13 K0) n v1 t_old → va_P D vwCl (wd_X6_remembers cI cZ cB cG q_t q_t_now q_t_old q_t_keys q_t_aside q_t_saved q_t_input q_t_output q_t_live q_t_weight q_t_measure q_t_planned q_t_came q_t_rank t_thrown t_oldMany t_savedSet t_inputMany t_outputMany t_errorCode t_errorPosition t_top t_ahead t_round t_loudest t_textEnd t_kind t_from t_to t_value t_fault t_faultAt t_now t_old) H → va_D A (wd_X6_remembers cI cZ cB cG q_t q_t_now q_t_old q_t_keys q_t_aside q_t_saved q_t_input q_t_output q_t_live q_t_weight q_t_measure q_t_planned q_t_came q_t_rank t_thrown t_oldMany t_savedSet t_inputMany t_outputMany t_errorCode t_errorPosition t_top t_ahead t_round t_loudest t_textEnd t_kind t_from t_to t_value t_fault t_faultAt t_now t_old) → va_S A s.heap H locs → lv_has ls 2 [(0, .ref q_t), (1, .int v1)] → W p l e (rm_X6_remembers) s m args below meth c H locs 0 0 Q (F0 m 13 ls []) := by
    intro t_oldMany K0 hK0 n
    induction n with
    | zero => intro v1 t_old H locs ls hf; exact (hf : False).elim
    | succ n ih =>
      intro v1 t_old H locs ls hf hP hD hS hl
      have hf : F_X6_remembers_13 K0 (fx2 (F_X6_remembers_13 K0) n) v1 t_old := hf
      unfold F_X6_remembers_13 at hf
      refine lv_iload_n hx hb dX6_remembers_13 rfl (lv_at hl 1 rfl) ?_
      refine lv_sipush (v := (1760 : Int32)) hx hb dX6_remembers_14 (by decide) ?_
      refine lv_icmp_ge (tgt := 42) hx hb dX6_remembers_17 (by decide) (fun hc => ?_) (fun hc => ?_)
      · have hf := hf.1 hc
        exact hK0 _ _ _ _ _ hf hP hD hS (lv_sub hl [0] rfl)
      · have hf := hf.2 hc
        refine lv_aload_n hx hb dX6_remembers_20 rfl (lv_at hl 0 rfl) ?_
        refine va_get (D := D) (ci := 6) (v := .ref q_t_old) (C := RX6) (T := TX6) (N := 31) hx hb hts hinX6 hown hK hP 0 rfl rfl 4 (by decide) k19 (fun _ h9 => h9) rfl dX6_remembers_21 ?_
        refine lv_iload_n hx hb dX6_remembers_24 rfl (lv_at hl 1 rfl) ?_
        refine lv_sipush (v := (176 : Int32)) hx hb dX6_remembers_25 (by decide) ?_
        refine lv_isub hx hb dX6_remembers_28 ?_
        refine lv_aload_n hx hb dX6_remembers_29 rfl (lv_at hl 0 rfl) ?_
        refine va_get (D := D) (ci := 6) (v := .ref q_t_old) (C := RX6) (T := TX6) (N := 31) hx hb hts hinX6 hown hK hP 0 rfl rfl 4 (by decide) k19 (fun _ h9 => h9) rfl dX6_remembers_30 ?_
        refine lv_iload_n hx hb dX6_remembers_33 rfl (lv_at hl 1 rfl) ?_
        refine va_iald hx hb hK hP 2 0 rfl rfl (n := 1760) hf.1 dX6_remembers_34 ?_
        have hf := hf.2
        refine va_iast hx hb hK hP hD hS 2 0 rfl rfl (n := 1760) hf.1 dX6_remembers_35 (fun H locs hP hD hS => ?_)
        have hf := hf.2
        have hP : va_P D vwCl (wd_X6_remembers cI cZ cB cG q_t q_t_now q_t_old q_t_keys q_t_aside q_t_saved q_t_input q_t_output q_t_live q_t_weight q_t_measure q_t_planned q_t_came q_t_rank t_thrown t_oldMany t_savedSet t_inputMany t_outputMany t_errorCode t_errorPosition t_top t_ahead t_round t_loudest t_textEnd t_kind t_from t_to t_value t_fault t_faultAt t_now ((upd t_old ((v1 - (176 : Int32))).toNatClampNeg (t_old v1.toNatClampNeg)))) H := hP
        have hD : va_D A (wd_X6_remembers cI cZ cB cG q_t q_t_now q_t_old q_t_keys q_t_aside q_t_saved q_t_input q_t_output q_t_live q_t_weight q_t_measure q_t_planned q_t_came q_t_rank t_thrown t_oldMany t_savedSet t_inputMany t_outputMany t_errorCode t_errorPosition t_top t_ahead t_round t_loudest t_textEnd t_kind t_from t_to t_value t_fault t_faultAt t_now ((upd t_old ((v1 - (176 : Int32))).toNatClampNeg (t_old v1.toNatClampNeg)))) := hD
        refine lv_iinc (v := (v1 + (1 : Int32))) (lv' := [(1, .int ((v1 + (1 : Int32)))), (0, .ref q_t)]) hx hb dX6_remembers_36 hl (k := 1) rfl rfl (by decide) rfl (fun ls hl => ?_)
        refine lv_goto (tgt := 13) hx hb dX6_remembers_39 (by decide) ?_
        exact ih _ _ _ _ _ hf hP hD hS (lv_sub hl [1, 0] rfl)
  unfold wp_X6_remembers at hf
  refine lv_aload_n hx hb dX6_remembers_0 rfl (lv_at hl 0 rfl) ?_
  refine va_get (D := D) (ci := 6) (v := .int t_oldMany) (C := RX6) (T := TX6) (N := 31) hx hb hts hinX6 hown hK hP 0 rfl rfl 5 (by decide) k136 (fun _ h9 => h9) rfl dX6_remembers_1 ?_
  refine lv_bipush (v := (10 : Int32)) hx hb dX6_remembers_4 (by decide) ?_
  refine lv_icmp_ne (tgt := 52) hx hb dX6_remembers_6 (by decide) (fun hc => ?_) (fun hc => ?_)
  · have hf := hf.1 hc
    refine lv_iconst (v := (0 : Int32)) hx hb dX6_remembers_52 (by decide) ?_
    refine lv_istore_n (lv' := [(1, .int (0 : Int32)), (0, .ref q_t)]) hx hb dX6_remembers_53 rfl hl (by decide) rfl (fun ls hl => ?_)
    obtain ⟨n, hf⟩ := hf
    refine L54 t_oldMany _ ?_  n _ _ _ _ _ hf hP hD hS (lv_sub hl [1, 0] rfl)
    intro v1_1 t_old_2 H locs ls hf hP hD hS hl
    refine lv_aload_n hx hb dX6_remembers_88 rfl (lv_at hl 0 rfl) ?_
    refine lv_dup hx hb dX6_remembers_89 rfl ?_
    refine va_get (D := D) (ci := 6) (v := .int t_oldMany) (C := RX6) (T := TX6) (N := 31) hx hb hts hinX6 hown hK hP 0 rfl rfl 5 (by decide) k136 (fun _ h9 => h9) rfl dX6_remembers_90 ?_
    refine lv_iconst (v := (1 : Int32)) hx hb dX6_remembers_93 (by decide) ?_
    refine lv_iadd hx hb dX6_remembers_94 ?_
    refine va_put (D := D) (ci := 6) (v := .int ((t_oldMany + (1 : Int32)))) (ty := .int) (C := RX6) (T := TX6) (N := 31) hx hb hts hinX6 tyX6 tyX6_ok nmX6 hown hK hP hD hS 0 rfl rfl 5 (by decide) k136 (fun _ h9 => h9) rfl (by decide +kernel) rfl rfl (Nat.le_of_ble_eq_true rfl) dX6_remembers_95 (fun H locs hP hD hS => ?_)
    have hP : va_P D vwCl (wd_X6_remembers cI cZ cB cG q_t q_t_now q_t_old q_t_keys q_t_aside q_t_saved q_t_input q_t_output q_t_live q_t_weight q_t_measure q_t_planned q_t_came q_t_rank t_thrown ((t_oldMany + (1 : Int32))) t_savedSet t_inputMany t_outputMany t_errorCode t_errorPosition t_top t_ahead t_round t_loudest t_textEnd t_kind t_from t_to t_value t_fault t_faultAt t_now t_old_2) H := hP
    have hD : va_D A (wd_X6_remembers cI cZ cB cG q_t q_t_now q_t_old q_t_keys q_t_aside q_t_saved q_t_input q_t_output q_t_live q_t_weight q_t_measure q_t_planned q_t_came q_t_rank t_thrown ((t_oldMany + (1 : Int32))) t_savedSet t_inputMany t_outputMany t_errorCode t_errorPosition t_top t_ahead t_round t_loudest t_textEnd t_kind t_from t_to t_value t_fault t_faultAt t_now t_old_2) := hD
    exact hret (((t_oldMany + (1 : Int32)), t_old_2)) hf hP hD hS dX6_remembers_98
  · have hf := hf.2 hc
    refine lv_sipush (v := (176 : Int32)) hx hb dX6_remembers_9 (by decide) ?_
    refine lv_istore_n (lv' := [(1, .int (176 : Int32)), (0, .ref q_t)]) hx hb dX6_remembers_12 rfl hl (by decide) rfl (fun ls hl => ?_)
    obtain ⟨n, hf⟩ := hf
    refine L13 t_oldMany _ ?_  n _ _ _ _ _ hf hP hD hS (lv_sub hl [1, 0] rfl)
    intro v1_3 t_old_4 H locs ls hf hP hD hS hl
    refine lv_aload_n hx hb dX6_remembers_42 rfl (lv_at hl 0 rfl) ?_
    refine lv_dup hx hb dX6_remembers_43 rfl ?_
    refine va_get (D := D) (ci := 6) (v := .int t_oldMany) (C := RX6) (T := TX6) (N := 31) hx hb hts hinX6 hown hK hP 0 rfl rfl 5 (by decide) k136 (fun _ h9 => h9) rfl dX6_remembers_44 ?_
    refine lv_iconst (v := (1 : Int32)) hx hb dX6_remembers_47 (by decide) ?_
    refine lv_isub hx hb dX6_remembers_48 ?_
    refine va_put (D := D) (ci := 6) (v := .int ((t_oldMany - (1 : Int32)))) (ty := .int) (C := RX6) (T := TX6) (N := 31) hx hb hts hinX6 tyX6 tyX6_ok nmX6 hown hK hP hD hS 0 rfl rfl 5 (by decide) k136 (fun _ h9 => h9) rfl (by decide +kernel) rfl rfl (Nat.le_of_ble_eq_true rfl) dX6_remembers_49 (fun H locs hP hD hS => ?_)
    have hP : va_P D vwCl (wd_X6_remembers cI cZ cB cG q_t q_t_now q_t_old q_t_keys q_t_aside q_t_saved q_t_input q_t_output q_t_live q_t_weight q_t_measure q_t_planned q_t_came q_t_rank t_thrown ((t_oldMany - (1 : Int32))) t_savedSet t_inputMany t_outputMany t_errorCode t_errorPosition t_top t_ahead t_round t_loudest t_textEnd t_kind t_from t_to t_value t_fault t_faultAt t_now t_old_4) H := hP
    have hD : va_D A (wd_X6_remembers cI cZ cB cG q_t q_t_now q_t_old q_t_keys q_t_aside q_t_saved q_t_input q_t_output q_t_live q_t_weight q_t_measure q_t_planned q_t_came q_t_rank t_thrown ((t_oldMany - (1 : Int32))) t_savedSet t_inputMany t_outputMany t_errorCode t_errorPosition t_top t_ahead t_round t_loudest t_textEnd t_kind t_from t_to t_value t_fault t_faultAt t_now t_old_4) := hD
    refine lv_iconst (v := (0 : Int32)) hx hb dX6_remembers_52 (by decide) ?_
    refine lv_istore_n (lv' := [(1, .int (0 : Int32)), (0, .ref q_t)]) hx hb dX6_remembers_53 rfl hl (by decide) rfl (fun ls hl => ?_)
    obtain ⟨n, hf⟩ := hf
    refine L54 ((t_oldMany - (1 : Int32))) _ ?_  n _ _ _ _ _ hf hP hD hS (lv_sub hl [1, 0] rfl)
    intro v1_5 t_old_6 H locs ls hf hP hD hS hl
    refine lv_aload_n hx hb dX6_remembers_88 rfl (lv_at hl 0 rfl) ?_
    refine lv_dup hx hb dX6_remembers_89 rfl ?_
    refine va_get (D := D) (ci := 6) (v := .int ((t_oldMany - (1 : Int32)))) (C := RX6) (T := TX6) (N := 31) hx hb hts hinX6 hown hK hP 0 rfl rfl 5 (by decide) k136 (fun _ h9 => h9) rfl dX6_remembers_90 ?_
    refine lv_iconst (v := (1 : Int32)) hx hb dX6_remembers_93 (by decide) ?_
    refine lv_iadd hx hb dX6_remembers_94 ?_
    refine va_put (D := D) (ci := 6) (v := .int (((t_oldMany - (1 : Int32)) + (1 : Int32)))) (ty := .int) (C := RX6) (T := TX6) (N := 31) hx hb hts hinX6 tyX6 tyX6_ok nmX6 hown hK hP hD hS 0 rfl rfl 5 (by decide) k136 (fun _ h9 => h9) rfl (by decide +kernel) rfl rfl (Nat.le_of_ble_eq_true rfl) dX6_remembers_95 (fun H locs hP hD hS => ?_)
    have hP : va_P D vwCl (wd_X6_remembers cI cZ cB cG q_t q_t_now q_t_old q_t_keys q_t_aside q_t_saved q_t_input q_t_output q_t_live q_t_weight q_t_measure q_t_planned q_t_came q_t_rank t_thrown (((t_oldMany - (1 : Int32)) + (1 : Int32))) t_savedSet t_inputMany t_outputMany t_errorCode t_errorPosition t_top t_ahead t_round t_loudest t_textEnd t_kind t_from t_to t_value t_fault t_faultAt t_now t_old_6) H := hP
    have hD : va_D A (wd_X6_remembers cI cZ cB cG q_t q_t_now q_t_old q_t_keys q_t_aside q_t_saved q_t_input q_t_output q_t_live q_t_weight q_t_measure q_t_planned q_t_came q_t_rank t_thrown (((t_oldMany - (1 : Int32)) + (1 : Int32))) t_savedSet t_inputMany t_outputMany t_errorCode t_errorPosition t_top t_ahead t_round t_loudest t_textEnd t_kind t_from t_to t_value t_fault t_faultAt t_now t_old_6) := hD
    exact hret ((((t_oldMany - (1 : Int32)) + (1 : Int32)), t_old_6)) hf hP hD hS dX6_remembers_98
abbrev wd_X6_putsAside (cI cZ cB cG : ClassId) (q_t : Nat) (q_t_aside : Nat) (q_t_now : Nat) (q_t_keys : Nat) (q_t_old : Nat) (q_t_saved : Nat) (q_t_input : Nat) (q_t_output : Nat) (q_t_live : Nat) (q_t_weight : Nat) (q_t_measure : Nat) (q_t_planned : Nat) (q_t_came : Nat) (q_t_rank : Nat) (t_thrown : Int32) (t_oldMany : Int32) (t_savedSet : Int32) (t_inputMany : Int32) (t_outputMany : Int32) (t_errorCode : Int32) (t_errorPosition : Int32) (t_top : Int32) (t_ahead : Int32) (t_round : Int32) (t_loudest : Int32) (t_textEnd : Int32) (t_kind : Int32) (t_from : Int32) (t_to : Int32) (t_value : Int32) (t_fault : Int32) (t_faultAt : Int32) (t_aside : (Nat → Int32)) (t_now : (Nat → Int32)) : va_W := [(q_t, .inr (6, [.ref q_t_keys, .int t_thrown, .ref q_t_now, .ref q_t_aside, .ref q_t_old, .int t_oldMany, .ref q_t_saved, .int t_savedSet, .ref q_t_input, .int t_inputMany, .ref q_t_output, .int t_outputMany, .int t_errorCode, .int t_errorPosition, .ref q_t_live, .ref q_t_weight, .ref q_t_measure, .int t_top, .ref q_t_planned, .ref q_t_came, .ref q_t_rank, .int t_ahead, .int t_round, .int t_loudest, .int t_textEnd, .int t_kind, .int t_from, .int t_to, .int t_value, .int t_fault, .int t_faultAt])), (q_t_aside, .inl (cI, 176, .inl t_aside)), (q_t_now, .inl (cI, 176, .inl t_now))]
def F_X6_putsAside_2 (t_now : (Nat → Int32)) (K0 : Int32 → (Nat → Int32) → Prop) (rec : Int32 → (Nat → Int32) → Prop) (v1 : Int32) (t_aside : (Nat → Int32)) : Prop := (((176 : Int32) ≤ v1 → (K0 v1 t_aside)) ∧ (¬ ((176 : Int32) ≤ v1) → (vp_in v1 176 ∧ (vp_in v1 176 ∧ (rec ((v1 + (1 : Int32))) ((upd t_aside v1.toNatClampNeg (t_now v1.toNatClampNeg))))))))
def wp_X6_putsAside (t_aside : (Nat → Int32)) (t_now : (Nat → Int32)) (post : (Nat → Int32) → Prop) : Prop := (∃ n, fx2 (F_X6_putsAside_2 t_now (fun v1_1 t_aside_2 => (post t_aside_2))) n (0 : Int32) t_aside)
abbrev rm_X6_putsAside : Room := { frames := 1, cells := 0, slots := 0, locals := 80 }
theorem in_X6_putsAside_X6 : ∀ w ∈ u_ws RX6 TX6 31, w ∈ wsX6_putsAside := by decide +kernel
theorem k_X6_putsAside_13 : Cond.fieldLink RX6 13 "ParityGameModel" "now" "[I" ∈ wsX6_putsAside := by decide +kernel
theorem k_X6_putsAside_16 : Cond.fieldLink RX6 16 "ParityGameModel" "aside" "[I" ∈ wsX6_putsAside := by decide +kernel
set_option maxHeartbeats 40000000 in
set_option maxRecDepth 100000 in
theorem c_X6_putsAside (l : Launch) (D : va_G) (X : gX) (cI cZ cB cG : ClassId) (sz : Nat) (q_t : Nat) (q_t_aside : Nat) (q_t_now : Nat) (q_t_keys : Nat) (q_t_old : Nat) (q_t_saved : Nat) (q_t_input : Nat) (q_t_output : Nat) (q_t_live : Nat) (q_t_weight : Nat) (q_t_measure : Nat) (q_t_planned : Nat) (q_t_came : Nat) (q_t_rank : Nat) (t_thrown : Int32) (t_oldMany : Int32) (t_savedSet : Int32) (t_inputMany : Int32) (t_outputMany : Int32) (t_errorCode : Int32) (t_errorPosition : Int32) (t_top : Int32) (t_ahead : Int32) (t_round : Int32) (t_loudest : Int32) (t_textEnd : Int32) (t_kind : Int32) (t_from : Int32) (t_to : Int32) (t_value : Int32) (t_fault : Int32) (t_faultAt : Int32) (t_aside : (Nat → Int32)) (t_now : (Nat → Int32)) (post : (Nat → Int32) → Prop) (hf : wp_X6_putsAside t_aside t_now post) : Met l yX6_putsAside wsX6_putsAside rm_X6_putsAside (gP D X (gT cI cZ cB cG) sz [.ref q_t] (wd_X6_putsAside cI cZ cB cG q_t q_t_aside q_t_now q_t_keys q_t_old q_t_saved q_t_input q_t_output q_t_live q_t_weight q_t_measure q_t_planned q_t_came q_t_rank t_thrown t_oldMany t_savedSet t_inputMany t_outputMany t_errorCode t_errorPosition t_top t_ahead t_round t_loudest t_textEnd t_kind t_from t_to t_value t_fault t_faultAt t_aside t_now)) (va_Qv (fun (u : (Nat → Int32)) => post u) (fun u t => gB D (gT cI cZ cB cG) (va_A (wd_X6_putsAside cI cZ cB cG q_t q_t_aside q_t_now q_t_keys q_t_old q_t_saved q_t_input q_t_output q_t_live q_t_weight q_t_measure q_t_planned q_t_came q_t_rank t_thrown t_oldMany t_savedSet t_inputMany t_outputMany t_errorCode t_errorPosition t_top t_ahead t_round t_loudest t_textEnd t_kind t_from t_to t_value t_fault t_faultAt t_aside t_now) sz) (wd_X6_putsAside cI cZ cB cG q_t q_t_aside q_t_now q_t_keys q_t_old q_t_saved q_t_input q_t_output q_t_live q_t_weight q_t_measure q_t_planned q_t_came q_t_rank t_thrown t_oldMany t_savedSet t_inputMany t_outputMany t_errorCode t_errorPosition t_top t_ahead t_round t_loudest t_textEnd t_kind t_from t_to t_value t_fault t_faultAt u t_now) t) (va_A (wd_X6_putsAside cI cZ cB cG q_t q_t_aside q_t_now q_t_keys q_t_old q_t_saved q_t_input q_t_output q_t_live q_t_weight q_t_measure q_t_planned q_t_came q_t_rank t_thrown t_oldMany t_savedSet t_inputMany t_outputMany t_errorCode t_errorPosition t_top t_ahead t_round t_loudest t_textEnd t_kind t_from t_to t_value t_fault t_faultAt t_aside t_now) sz)) 0 0 (va_A (wd_X6_putsAside cI cZ cB cG q_t q_t_aside q_t_now q_t_keys q_t_old q_t_saved q_t_input q_t_output q_t_live q_t_weight q_t_measure q_t_planned q_t_came q_t_rank t_thrown t_oldMany t_savedSet t_inputMany t_outputMany t_errorCode t_errorPosition t_top t_ahead t_round t_loudest t_textEnd t_kind t_from t_to t_value t_fault t_faultAt t_aside t_now) sz) := by
  refine g_ofWv (cc := cX6_putsAside) (maxL := 2) (by decide +kernel) (Nat.le_of_ble_eq_true rfl) rfl ?_
  intro p e s m args below meth c A Q hx hb hml hown hts hA hK hE H hP hD hS ls hl hret
  have hinX6 := in_X6_putsAside_X6
  have k13 := hts _ k_X6_putsAside_13
  have k16 := hts _ k_X6_putsAside_16
  have hl : lv_has ls 2 [(0, .ref q_t)] := hl
  have L2 : ∀ (K0 : Int32 → (Nat → Int32) → Prop) (_ : ∀ (v1 : Int32) (t_aside : (Nat → Int32)) (H : Heap) (locs : List Loc) (ls : Array Slot), K0 v1 t_aside → va_P D vwCl (wd_X6_putsAside cI cZ cB cG q_t q_t_aside q_t_now q_t_keys q_t_old q_t_saved q_t_input q_t_output q_t_live q_t_weight q_t_measure q_t_planned q_t_came q_t_rank t_thrown t_oldMany t_savedSet t_inputMany t_outputMany t_errorCode t_errorPosition t_top t_ahead t_round t_loudest t_textEnd t_kind t_from t_to t_value t_fault t_faultAt t_aside t_now) H → va_D A (wd_X6_putsAside cI cZ cB cG q_t q_t_aside q_t_now q_t_keys q_t_old q_t_saved q_t_input q_t_output q_t_live q_t_weight q_t_measure q_t_planned q_t_came q_t_rank t_thrown t_oldMany t_savedSet t_inputMany t_outputMany t_errorCode t_errorPosition t_top t_ahead t_round t_loudest t_textEnd t_kind t_from t_to t_value t_fault t_faultAt t_aside t_now) → va_S A s.heap H locs → lv_has ls 2 [] → W p l e (rm_X6_putsAside) s m args below meth c H locs 0 0 Q (F0 m 27 ls []))  (n : Nat) (v1 : Int32) (t_aside : (Nat → Int32)) (H : Heap) (locs : List Loc) (ls : Array Slot), fx2 (F_X6_putsAside_2 t_now K0) n v1 t_aside → va_P D vwCl (wd_X6_putsAside cI cZ cB cG q_t q_t_aside q_t_now q_t_keys q_t_old q_t_saved q_t_input q_t_output q_t_live q_t_weight q_t_measure q_t_planned q_t_came q_t_rank t_thrown t_oldMany t_savedSet t_inputMany t_outputMany t_errorCode t_errorPosition t_top t_ahead t_round t_loudest t_textEnd t_kind t_from t_to t_value t_fault t_faultAt t_aside t_now) H → va_D A (wd_X6_putsAside cI cZ cB cG q_t q_t_aside q_t_now q_t_keys q_t_old q_t_saved q_t_input q_t_output q_t_live q_t_weight q_t_measure q_t_planned q_t_came q_t_rank t_thrown t_oldMany t_savedSet t_inputMany t_outputMany t_errorCode t_errorPosition t_top t_ahead t_round t_loudest t_textEnd t_kind t_from t_to t_value t_fault t_faultAt t_aside t_now) → va_S A s.heap H locs → lv_has ls 2 [(0, .ref q_t), (1, .int v1)] → W p l e (rm_X6_putsAside) s m args below meth c H locs 0 0 Q (F0 m 2 ls []) := by
    intro K0 hK0 n
    induction n with
    | zero => intro v1 t_aside H locs ls hf; exact (hf : False).elim
    | succ n ih =>
      intro v1 t_aside H locs ls hf hP hD hS hl
      have hf : F_X6_putsAside_2 t_now K0 (fx2 (F_X6_putsAside_2 t_now K0) n) v1 t_aside := hf
      unfold F_X6_putsAside_2 at hf
      refine lv_iload_n hx hb dX6_putsAside_2 rfl (lv_at hl 1 rfl) ?_
      refine lv_sipush (v := (176 : Int32)) hx hb dX6_putsAside_3 (by decide) ?_
      refine lv_icmp_ge (tgt := 27) hx hb dX6_putsAside_6 (by decide) (fun hc => ?_) (fun hc => ?_)
      · have hf := hf.1 hc
        exact hK0 _ _ _ _ _ hf hP hD hS (lv_sub hl [] rfl)
      · have hf := hf.2 hc
        refine lv_aload_n hx hb dX6_putsAside_9 rfl (lv_at hl 0 rfl) ?_
        refine va_get (D := D) (ci := 6) (v := .ref q_t_aside) (C := RX6) (T := TX6) (N := 31) hx hb hts hinX6 hown hK hP 0 rfl rfl 3 (by decide) k16 (fun _ h9 => h9) rfl dX6_putsAside_10 ?_
        refine lv_iload_n hx hb dX6_putsAside_13 rfl (lv_at hl 1 rfl) ?_
        refine lv_aload_n hx hb dX6_putsAside_14 rfl (lv_at hl 0 rfl) ?_
        refine va_get (D := D) (ci := 6) (v := .ref q_t_now) (C := RX6) (T := TX6) (N := 31) hx hb hts hinX6 hown hK hP 0 rfl rfl 2 (by decide) k13 (fun _ h9 => h9) rfl dX6_putsAside_15 ?_
        refine lv_iload_n hx hb dX6_putsAside_18 rfl (lv_at hl 1 rfl) ?_
        refine va_iald hx hb hK hP 2 0 rfl rfl (n := 176) hf.1 dX6_putsAside_19 ?_
        have hf := hf.2
        refine va_iast hx hb hK hP hD hS 1 0 rfl rfl (n := 176) hf.1 dX6_putsAside_20 (fun H locs hP hD hS => ?_)
        have hf := hf.2
        have hP : va_P D vwCl (wd_X6_putsAside cI cZ cB cG q_t q_t_aside q_t_now q_t_keys q_t_old q_t_saved q_t_input q_t_output q_t_live q_t_weight q_t_measure q_t_planned q_t_came q_t_rank t_thrown t_oldMany t_savedSet t_inputMany t_outputMany t_errorCode t_errorPosition t_top t_ahead t_round t_loudest t_textEnd t_kind t_from t_to t_value t_fault t_faultAt ((upd t_aside v1.toNatClampNeg (t_now v1.toNatClampNeg))) t_now) H := hP
        have hD : va_D A (wd_X6_putsAside cI cZ cB cG q_t q_t_aside q_t_now q_t_keys q_t_old q_t_saved q_t_input q_t_output q_t_live q_t_weight q_t_measure q_t_planned q_t_came q_t_rank t_thrown t_oldMany t_savedSet t_inputMany t_outputMany t_errorCode t_errorPosition t_top t_ahead t_round t_loudest t_textEnd t_kind t_from t_to t_value t_fault t_faultAt ((upd t_aside v1.toNatClampNeg (t_now v1.toNatClampNeg))) t_now) := hD
        refine lv_iinc (v := (v1 + (1 : Int32))) (lv' := [(1, .int ((v1 + (1 : Int32)))), (0, .ref q_t)]) hx hb dX6_putsAside_21 hl (k := 1) rfl rfl (by decide) rfl (fun ls hl => ?_)
        refine lv_goto (tgt := 2) hx hb dX6_putsAside_24 (by decide) ?_
        exact ih _ _ _ _ _ hf hP hD hS (lv_sub hl [1, 0] rfl)
  unfold wp_X6_putsAside at hf
  refine lv_iconst (v := (0 : Int32)) hx hb dX6_putsAside_0 (by decide) ?_
  refine lv_istore_n (lv' := [(1, .int (0 : Int32)), (0, .ref q_t)]) hx hb dX6_putsAside_1 rfl hl (by decide) rfl (fun ls hl => ?_)
  obtain ⟨n, hf⟩ := hf
  refine L2 _ ?_  n _ _ _ _ _ hf hP hD hS (lv_sub hl [1, 0] rfl)
  intro v1_1 t_aside_2 H locs ls hf hP hD hS hl
  exact hret t_aside_2 hf hP hD hS dX6_putsAside_27
abbrev wd_X6_putsBack (cI cZ cB cG : ClassId) (q_t : Nat) (q_t_aside : Nat) (q_t_now : Nat) (q_t_keys : Nat) (q_t_old : Nat) (q_t_saved : Nat) (q_t_input : Nat) (q_t_output : Nat) (q_t_live : Nat) (q_t_weight : Nat) (q_t_measure : Nat) (q_t_planned : Nat) (q_t_came : Nat) (q_t_rank : Nat) (t_thrown : Int32) (t_oldMany : Int32) (t_savedSet : Int32) (t_inputMany : Int32) (t_outputMany : Int32) (t_errorCode : Int32) (t_errorPosition : Int32) (t_top : Int32) (t_ahead : Int32) (t_round : Int32) (t_loudest : Int32) (t_textEnd : Int32) (t_kind : Int32) (t_from : Int32) (t_to : Int32) (t_value : Int32) (t_fault : Int32) (t_faultAt : Int32) (t_aside : (Nat → Int32)) (t_now : (Nat → Int32)) : va_W := [(q_t, .inr (6, [.ref q_t_keys, .int t_thrown, .ref q_t_now, .ref q_t_aside, .ref q_t_old, .int t_oldMany, .ref q_t_saved, .int t_savedSet, .ref q_t_input, .int t_inputMany, .ref q_t_output, .int t_outputMany, .int t_errorCode, .int t_errorPosition, .ref q_t_live, .ref q_t_weight, .ref q_t_measure, .int t_top, .ref q_t_planned, .ref q_t_came, .ref q_t_rank, .int t_ahead, .int t_round, .int t_loudest, .int t_textEnd, .int t_kind, .int t_from, .int t_to, .int t_value, .int t_fault, .int t_faultAt])), (q_t_aside, .inl (cI, 176, .inl t_aside)), (q_t_now, .inl (cI, 176, .inl t_now))]
def F_X6_putsBack_2 (t_aside : (Nat → Int32)) (K0 : Int32 → (Nat → Int32) → Prop) (rec : Int32 → (Nat → Int32) → Prop) (v1 : Int32) (t_now : (Nat → Int32)) : Prop := (((176 : Int32) ≤ v1 → (K0 v1 t_now)) ∧ (¬ ((176 : Int32) ≤ v1) → (vp_in v1 176 ∧ (vp_in v1 176 ∧ (rec ((v1 + (1 : Int32))) ((upd t_now v1.toNatClampNeg (t_aside v1.toNatClampNeg))))))))
def wp_X6_putsBack (t_aside : (Nat → Int32)) (t_now : (Nat → Int32)) (post : (Nat → Int32) → Prop) : Prop := (∃ n, fx2 (F_X6_putsBack_2 t_aside (fun v1_1 t_now_2 => (post t_now_2))) n (0 : Int32) t_now)
abbrev rm_X6_putsBack : Room := { frames := 1, cells := 0, slots := 0, locals := 80 }
theorem in_X6_putsBack_X6 : ∀ w ∈ u_ws RX6 TX6 31, w ∈ wsX6_putsBack := by decide +kernel
theorem k_X6_putsBack_13 : Cond.fieldLink RX6 13 "ParityGameModel" "now" "[I" ∈ wsX6_putsBack := by decide +kernel
theorem k_X6_putsBack_16 : Cond.fieldLink RX6 16 "ParityGameModel" "aside" "[I" ∈ wsX6_putsBack := by decide +kernel
set_option maxHeartbeats 40000000 in
set_option maxRecDepth 100000 in
theorem c_X6_putsBack (l : Launch) (D : va_G) (X : gX) (cI cZ cB cG : ClassId) (sz : Nat) (q_t : Nat) (q_t_aside : Nat) (q_t_now : Nat) (q_t_keys : Nat) (q_t_old : Nat) (q_t_saved : Nat) (q_t_input : Nat) (q_t_output : Nat) (q_t_live : Nat) (q_t_weight : Nat) (q_t_measure : Nat) (q_t_planned : Nat) (q_t_came : Nat) (q_t_rank : Nat) (t_thrown : Int32) (t_oldMany : Int32) (t_savedSet : Int32) (t_inputMany : Int32) (t_outputMany : Int32) (t_errorCode : Int32) (t_errorPosition : Int32) (t_top : Int32) (t_ahead : Int32) (t_round : Int32) (t_loudest : Int32) (t_textEnd : Int32) (t_kind : Int32) (t_from : Int32) (t_to : Int32) (t_value : Int32) (t_fault : Int32) (t_faultAt : Int32) (t_aside : (Nat → Int32)) (t_now : (Nat → Int32)) (post : (Nat → Int32) → Prop) (hf : wp_X6_putsBack t_aside t_now post) : Met l yX6_putsBack wsX6_putsBack rm_X6_putsBack (gP D X (gT cI cZ cB cG) sz [.ref q_t] (wd_X6_putsBack cI cZ cB cG q_t q_t_aside q_t_now q_t_keys q_t_old q_t_saved q_t_input q_t_output q_t_live q_t_weight q_t_measure q_t_planned q_t_came q_t_rank t_thrown t_oldMany t_savedSet t_inputMany t_outputMany t_errorCode t_errorPosition t_top t_ahead t_round t_loudest t_textEnd t_kind t_from t_to t_value t_fault t_faultAt t_aside t_now)) (va_Qv (fun (u : (Nat → Int32)) => post u) (fun u t => gB D (gT cI cZ cB cG) (va_A (wd_X6_putsBack cI cZ cB cG q_t q_t_aside q_t_now q_t_keys q_t_old q_t_saved q_t_input q_t_output q_t_live q_t_weight q_t_measure q_t_planned q_t_came q_t_rank t_thrown t_oldMany t_savedSet t_inputMany t_outputMany t_errorCode t_errorPosition t_top t_ahead t_round t_loudest t_textEnd t_kind t_from t_to t_value t_fault t_faultAt t_aside t_now) sz) (wd_X6_putsBack cI cZ cB cG q_t q_t_aside q_t_now q_t_keys q_t_old q_t_saved q_t_input q_t_output q_t_live q_t_weight q_t_measure q_t_planned q_t_came q_t_rank t_thrown t_oldMany t_savedSet t_inputMany t_outputMany t_errorCode t_errorPosition t_top t_ahead t_round t_loudest t_textEnd t_kind t_from t_to t_value t_fault t_faultAt t_aside u) t) (va_A (wd_X6_putsBack cI cZ cB cG q_t q_t_aside q_t_now q_t_keys q_t_old q_t_saved q_t_input q_t_output q_t_live q_t_weight q_t_measure q_t_planned q_t_came q_t_rank t_thrown t_oldMany t_savedSet t_inputMany t_outputMany t_errorCode t_errorPosition t_top t_ahead t_round t_loudest t_textEnd t_kind t_from t_to t_value t_fault t_faultAt t_aside t_now) sz)) 0 0 (va_A (wd_X6_putsBack cI cZ cB cG q_t q_t_aside q_t_now q_t_keys q_t_old q_t_saved q_t_input q_t_output q_t_live q_t_weight q_t_measure q_t_planned q_t_came q_t_rank t_thrown t_oldMany t_savedSet t_inputMany t_outputMany t_errorCode t_errorPosition t_top t_ahead t_round t_loudest t_textEnd t_kind t_from t_to t_value t_fault t_faultAt t_aside t_now) sz) := by
  refine g_ofWv (cc := cX6_putsBack) (maxL := 2) (by decide +kernel) (Nat.le_of_ble_eq_true rfl) rfl ?_
  intro p e s m args below meth c A Q hx hb hml hown hts hA hK hE H hP hD hS ls hl hret
  have hinX6 := in_X6_putsBack_X6
  have k13 := hts _ k_X6_putsBack_13
  have k16 := hts _ k_X6_putsBack_16
  have hl : lv_has ls 2 [(0, .ref q_t)] := hl
  have L2 : ∀ (K0 : Int32 → (Nat → Int32) → Prop) (_ : ∀ (v1 : Int32) (t_now : (Nat → Int32)) (H : Heap) (locs : List Loc) (ls : Array Slot), K0 v1 t_now → va_P D vwCl (wd_X6_putsBack cI cZ cB cG q_t q_t_aside q_t_now q_t_keys q_t_old q_t_saved q_t_input q_t_output q_t_live q_t_weight q_t_measure q_t_planned q_t_came q_t_rank t_thrown t_oldMany t_savedSet t_inputMany t_outputMany t_errorCode t_errorPosition t_top t_ahead t_round t_loudest t_textEnd t_kind t_from t_to t_value t_fault t_faultAt t_aside t_now) H → va_D A (wd_X6_putsBack cI cZ cB cG q_t q_t_aside q_t_now q_t_keys q_t_old q_t_saved q_t_input q_t_output q_t_live q_t_weight q_t_measure q_t_planned q_t_came q_t_rank t_thrown t_oldMany t_savedSet t_inputMany t_outputMany t_errorCode t_errorPosition t_top t_ahead t_round t_loudest t_textEnd t_kind t_from t_to t_value t_fault t_faultAt t_aside t_now) → va_S A s.heap H locs → lv_has ls 2 [] → W p l e (rm_X6_putsBack) s m args below meth c H locs 0 0 Q (F0 m 27 ls []))  (n : Nat) (v1 : Int32) (t_now : (Nat → Int32)) (H : Heap) (locs : List Loc) (ls : Array Slot), fx2 (F_X6_putsBack_2 t_aside K0) n v1 t_now → va_P D vwCl (wd_X6_putsBack cI cZ cB cG q_t q_t_aside q_t_now q_t_keys q_t_old q_t_saved q_t_input q_t_output q_t_live q_t_weight q_t_measure q_t_planned q_t_came q_t_rank t_thrown t_oldMany t_savedSet t_inputMany t_outputMany t_errorCode t_errorPosition t_top t_ahead t_round t_loudest t_textEnd t_kind t_from t_to t_value t_fault t_faultAt t_aside t_now) H → va_D A (wd_X6_putsBack cI cZ cB cG q_t q_t_aside q_t_now q_t_keys q_t_old q_t_saved q_t_input q_t_output q_t_live q_t_weight q_t_measure q_t_planned q_t_came q_t_rank t_thrown t_oldMany t_savedSet t_inputMany t_outputMany t_errorCode t_errorPosition t_top t_ahead t_round t_loudest t_textEnd t_kind t_from t_to t_value t_fault t_faultAt t_aside t_now) → va_S A s.heap H locs → lv_has ls 2 [(0, .ref q_t), (1, .int v1)] → W p l e (rm_X6_putsBack) s m args below meth c H locs 0 0 Q (F0 m 2 ls []) := by
    intro K0 hK0 n
    induction n with
    | zero => intro v1 t_now H locs ls hf; exact (hf : False).elim
    | succ n ih =>
      intro v1 t_now H locs ls hf hP hD hS hl
      have hf : F_X6_putsBack_2 t_aside K0 (fx2 (F_X6_putsBack_2 t_aside K0) n) v1 t_now := hf
      unfold F_X6_putsBack_2 at hf
      refine lv_iload_n hx hb dX6_putsBack_2 rfl (lv_at hl 1 rfl) ?_
      refine lv_sipush (v := (176 : Int32)) hx hb dX6_putsBack_3 (by decide) ?_
      refine lv_icmp_ge (tgt := 27) hx hb dX6_putsBack_6 (by decide) (fun hc => ?_) (fun hc => ?_)
      · have hf := hf.1 hc
        exact hK0 _ _ _ _ _ hf hP hD hS (lv_sub hl [] rfl)
      · have hf := hf.2 hc
        refine lv_aload_n hx hb dX6_putsBack_9 rfl (lv_at hl 0 rfl) ?_
        refine va_get (D := D) (ci := 6) (v := .ref q_t_now) (C := RX6) (T := TX6) (N := 31) hx hb hts hinX6 hown hK hP 0 rfl rfl 2 (by decide) k13 (fun _ h9 => h9) rfl dX6_putsBack_10 ?_
        refine lv_iload_n hx hb dX6_putsBack_13 rfl (lv_at hl 1 rfl) ?_
        refine lv_aload_n hx hb dX6_putsBack_14 rfl (lv_at hl 0 rfl) ?_
        refine va_get (D := D) (ci := 6) (v := .ref q_t_aside) (C := RX6) (T := TX6) (N := 31) hx hb hts hinX6 hown hK hP 0 rfl rfl 3 (by decide) k16 (fun _ h9 => h9) rfl dX6_putsBack_15 ?_
        refine lv_iload_n hx hb dX6_putsBack_18 rfl (lv_at hl 1 rfl) ?_
        refine va_iald hx hb hK hP 1 0 rfl rfl (n := 176) hf.1 dX6_putsBack_19 ?_
        have hf := hf.2
        refine va_iast hx hb hK hP hD hS 2 0 rfl rfl (n := 176) hf.1 dX6_putsBack_20 (fun H locs hP hD hS => ?_)
        have hf := hf.2
        have hP : va_P D vwCl (wd_X6_putsBack cI cZ cB cG q_t q_t_aside q_t_now q_t_keys q_t_old q_t_saved q_t_input q_t_output q_t_live q_t_weight q_t_measure q_t_planned q_t_came q_t_rank t_thrown t_oldMany t_savedSet t_inputMany t_outputMany t_errorCode t_errorPosition t_top t_ahead t_round t_loudest t_textEnd t_kind t_from t_to t_value t_fault t_faultAt t_aside ((upd t_now v1.toNatClampNeg (t_aside v1.toNatClampNeg)))) H := hP
        have hD : va_D A (wd_X6_putsBack cI cZ cB cG q_t q_t_aside q_t_now q_t_keys q_t_old q_t_saved q_t_input q_t_output q_t_live q_t_weight q_t_measure q_t_planned q_t_came q_t_rank t_thrown t_oldMany t_savedSet t_inputMany t_outputMany t_errorCode t_errorPosition t_top t_ahead t_round t_loudest t_textEnd t_kind t_from t_to t_value t_fault t_faultAt t_aside ((upd t_now v1.toNatClampNeg (t_aside v1.toNatClampNeg)))) := hD
        refine lv_iinc (v := (v1 + (1 : Int32))) (lv' := [(1, .int ((v1 + (1 : Int32)))), (0, .ref q_t)]) hx hb dX6_putsBack_21 hl (k := 1) rfl rfl (by decide) rfl (fun ls hl => ?_)
        refine lv_goto (tgt := 2) hx hb dX6_putsBack_24 (by decide) ?_
        exact ih _ _ _ _ _ hf hP hD hS (lv_sub hl [1, 0] rfl)
  unfold wp_X6_putsBack at hf
  refine lv_iconst (v := (0 : Int32)) hx hb dX6_putsBack_0 (by decide) ?_
  refine lv_istore_n (lv' := [(1, .int (0 : Int32)), (0, .ref q_t)]) hx hb dX6_putsBack_1 rfl hl (by decide) rfl (fun ls hl => ?_)
  obtain ⟨n, hf⟩ := hf
  refine L2 _ ?_  n _ _ _ _ _ hf hP hD hS (lv_sub hl [1, 0] rfl)
  intro v1_1 t_now_2 H locs ls hf hP hD hS hl
  exact hret t_now_2 hf hP hD hS dX6_putsBack_27
