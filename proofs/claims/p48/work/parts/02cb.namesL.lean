def lwc_37 : List Cond := wsL_law0_r32
set_option maxRecDepth 20000 in
theorem lwc_37_tb : ∀ w ∈ lwc_37, w ∈ lw_tbl2 := goodIn_m lw_tC lw_tC_in _ [(7, 65), (7, 66), (7, 67), (3, 182), (7, 32), (7, 33), (7, 34), (7, 35), (7, 36), (7, 37), (7, 39), (7, 41), (2, 7), (7, 42), (3, 52), (3, 57), (3, 61), (3, 161), (7, 43), (7, 44), (7, 45), (7, 46), (7, 148), (7, 149)] (by decide +kernel)
def lwc_38 : List Cond := wsL_law0_r33a
set_option maxRecDepth 20000 in
theorem lwc_38_tb : ∀ w ∈ lwc_38, w ∈ lw_tbl2 := goodIn_m lw_tC lw_tC_in _ [(7, 150), (7, 151), (7, 152), (7, 153), (7, 154), (7, 155), (7, 157), (7, 158), (7, 159), (7, 160), (7, 161), (7, 162), (7, 163), (7, 164), (6, 236), (6, 237)] (by decide +kernel)
def lwc_39 : List Cond := wsL_law0_r33b
theorem lwc_39_tb : ∀ w ∈ lwc_39, w ∈ lw_tbl2 := fun w h => by
  rw [List.mem_singleton.mp h]
  exact lw_tC_in _ (List.mem_of_getElem? (i := 6) rfl) _ (List.mem_of_getElem? (i := 238) rfl)
def lwc_40 : List Cond := wsL_law0_r33c
set_option maxRecDepth 20000 in
theorem lwc_40_tb : ∀ w ∈ lwc_40, w ∈ lw_tbl2 := goodIn_m lw_tC lw_tC_in _ [(7, 3), (7, 4), (7, 5), (7, 6), (7, 7), (7, 8), (7, 9)] (by decide +kernel)
def lwc_41 : List Cond := wsL_law0_r34
set_option maxRecDepth 20000 in
theorem lwc_41_tb : ∀ w ∈ lwc_41, w ∈ lw_tbl2 := goodIn_m lw_tC lw_tC_in _ [(7, 10), (7, 11), (7, 12), (7, 13), (7, 14), (7, 15), (7, 16), (7, 17), (7, 18), (7, 19), (7, 20), (7, 21), (7, 22), (7, 23), (7, 25), (2, 6), (7, 26), (7, 27), (7, 28), (7, 29), (7, 30), (7, 31), (7, 47), (7, 48)] (by decide +kernel)
def lwc_42 : List Cond := wsL_law0_r35a
set_option maxRecDepth 20000 in
theorem lwc_42_tb : ∀ w ∈ lwc_42, w ∈ lw_tbl2 := goodIn_m lw_tC lw_tC_in _ [(7, 49), (7, 50), (7, 51), (7, 53), (2, 8), (7, 54), (7, 55), (7, 57), (2, 9), (7, 58), (7, 59), (7, 60), (7, 62), (2, 10), (7, 63), (7, 69), (7, 70)] (by decide +kernel)
def lwc_43 : List Cond := wsL_law0_r35b
theorem lwc_43_tb : ∀ w ∈ lwc_43, w ∈ lw_tbl2 := fun w h => by
  rw [List.mem_singleton.mp h]
  exact lw_tC_in _ (List.mem_of_getElem? (i := 7) rfl) _ (List.mem_of_getElem? (i := 71) rfl)
def lwc_44 : List Cond := wsL_law0_r35c
set_option maxRecDepth 20000 in
theorem lwc_44_tb : ∀ w ∈ lwc_44, w ∈ lw_tbl2 := goodIn_m lw_tC lw_tC_in _ [(7, 72), (7, 73), (7, 74), (7, 75), (7, 76), (7, 77)] (by decide +kernel)
def lwc_45 : List Cond := wsL_law0_r36
set_option maxRecDepth 20000 in
theorem lwc_45_tb : ∀ w ∈ lwc_45, w ∈ lw_tbl2 := goodIn_m lw_tC lw_tC_in _ [(7, 78), (7, 79), (7, 80), (7, 81), (7, 82), (7, 83), (7, 84), (7, 85), (7, 86), (7, 87), (7, 88), (7, 89), (7, 90), (7, 91), (7, 92), (7, 93), (5, 78), (5, 79), (5, 80), (5, 81), (5, 82), (5, 83), (5, 84), (3, 141)] (by decide +kernel)
def lwc_46 : List Cond := wsL_law0_r37
set_option maxRecDepth 20000 in
theorem lwc_46_tb : ∀ w ∈ lwc_46, w ∈ lw_tbl2 := goodIn_m lw_tC lw_tC_in _ [(5, 86), (5, 87), (5, 88), (5, 89), (4, 106), (4, 107), (4, 108), (4, 109)] (by decide +kernel)
def lwc_47 : List Cond := wsX50
set_option maxRecDepth 20000 in
theorem lwc_47_tb : ∀ w ∈ lwc_47, w ∈ lw_tbl2 := goodIn_m lw_tC lw_tC_in _ [(3, 220), (3, 222), (3, 224), (3, 226), (3, 228), (3, 230), (3, 232), (3, 234), (3, 236), (3, 238), (4, 0), (4, 2)] (by decide +kernel)
def lwc_48 : List Cond := wsX10
set_option maxRecDepth 20000 in
theorem lwc_48_tb : ∀ w ∈ lwc_48, w ∈ lw_tbl2 := goodIn_m lw_tC lw_tC_in _ [(3, 69), (3, 71), (3, 73), (3, 75), (3, 77), (3, 79), (3, 81), (3, 83), (3, 85)] (by decide +kernel)
def lwc_49 : List Cond := wsX40
set_option maxRecDepth 20000 in
theorem lwc_49_tb : ∀ w ∈ lwc_49, w ∈ lw_tbl2 := goodIn_m lw_tC lw_tC_in _ [(3, 108), (3, 110), (3, 112), (3, 114), (3, 116), (3, 118), (3, 120), (3, 122), (3, 124), (3, 126)] (by decide +kernel)
def lwc_50 : List Cond := wsX20
set_option maxRecDepth 20000 in
theorem lwc_50_tb : ∀ w ∈ lwc_50, w ∈ lw_tbl2 := goodIn_m lw_tC lw_tC_in _ [(3, 142), (3, 144), (3, 146)] (by decide +kernel)
def lwc_51 : List Cond := wsX00
set_option maxRecDepth 20000 in
theorem lwc_51_tb : ∀ w ∈ lwc_51, w ∈ lw_tbl2 := goodIn_m lw_tC lw_tC_in _ [(3, 162), (3, 164), (3, 166), (3, 168), (3, 170)] (by decide +kernel)
def lwc_52 : List Cond := wsX30
set_option maxRecDepth 20000 in
theorem lwc_52_tb : ∀ w ∈ lwc_52, w ∈ lw_tbl2 := goodIn_m lw_tC lw_tC_in _ [(3, 186), (3, 188), (3, 190), (3, 192), (3, 194)] (by decide +kernel)
def lwc_53 : List Cond := wsJ40
set_option maxRecDepth 20000 in
theorem lwc_53_tb : ∀ w ∈ lwc_53, w ∈ lw_tbl2 := goodIn_m lw_tC lw_tC_in _ [(6, 26), (6, 28), (6, 30), (6, 32)] (by decide +kernel)
def lwc_54 : List Cond := wsJ00
set_option maxRecDepth 20000 in
theorem lwc_54_tb : ∀ w ∈ lwc_54, w ∈ lw_tbl2 := goodIn_m lw_tC lw_tC_in _ [(6, 138), (6, 140), (6, 142), (6, 144)] (by decide +kernel)
def lwc_55 : List Cond := []
set_option maxRecDepth 20000 in
theorem lwc_55_tb : ∀ w ∈ lwc_55, w ∈ lw_tbl2 := goodIn_m lw_tC lw_tC_in _ [] (by decide +kernel)
theorem wsL_lawC_tb : ∀ ch ∈ wsL_law0_C, ∀ w ∈ ch, w ∈ lw_tbl2 := List.forall_mem_cons.mpr ⟨lwc_0_tb, List.forall_mem_cons.mpr ⟨lwc_1_tb, List.forall_mem_cons.mpr ⟨lwc_2_tb, List.forall_mem_cons.mpr ⟨lwc_3_tb, List.forall_mem_cons.mpr ⟨lwc_4_tb, List.forall_mem_cons.mpr ⟨lwc_5_tb, List.forall_mem_cons.mpr ⟨lwc_6_tb, List.forall_mem_cons.mpr ⟨lwc_7_tb, List.forall_mem_cons.mpr ⟨lwc_8_tb, List.forall_mem_cons.mpr ⟨lwc_9_tb, List.forall_mem_cons.mpr ⟨lwc_10_tb, List.forall_mem_cons.mpr ⟨lwc_11_tb, List.forall_mem_cons.mpr ⟨lwc_12_tb, List.forall_mem_cons.mpr ⟨lwc_13_tb, List.forall_mem_cons.mpr ⟨lwc_14_tb, List.forall_mem_cons.mpr ⟨lwc_15_tb, List.forall_mem_cons.mpr ⟨lwc_16_tb, List.forall_mem_cons.mpr ⟨lwc_17_tb, List.forall_mem_cons.mpr ⟨lwc_18_tb, List.forall_mem_cons.mpr ⟨lwc_19_tb, List.forall_mem_cons.mpr ⟨lwc_20_tb, List.forall_mem_cons.mpr ⟨lwc_21_tb, List.forall_mem_cons.mpr ⟨lwc_22_tb, List.forall_mem_cons.mpr ⟨lwc_23_tb, List.forall_mem_cons.mpr ⟨lwc_24_tb, List.forall_mem_cons.mpr ⟨lwc_25_tb, List.forall_mem_cons.mpr ⟨lwc_26_tb, List.forall_mem_cons.mpr ⟨lwc_27_tb, List.forall_mem_cons.mpr ⟨lwc_28_tb, List.forall_mem_cons.mpr ⟨lwc_29_tb, List.forall_mem_cons.mpr ⟨lwc_30_tb, List.forall_mem_cons.mpr ⟨lwc_31_tb, List.forall_mem_cons.mpr ⟨lwc_32_tb, List.forall_mem_cons.mpr ⟨lwc_33_tb, List.forall_mem_cons.mpr ⟨lwc_34_tb, List.forall_mem_cons.mpr ⟨lwc_35_tb, List.forall_mem_cons.mpr ⟨lwc_36_tb, List.forall_mem_cons.mpr ⟨lwc_37_tb, List.forall_mem_cons.mpr ⟨lwc_38_tb, List.forall_mem_cons.mpr ⟨lwc_39_tb, List.forall_mem_cons.mpr ⟨lwc_40_tb, List.forall_mem_cons.mpr ⟨lwc_41_tb, List.forall_mem_cons.mpr ⟨lwc_42_tb, List.forall_mem_cons.mpr ⟨lwc_43_tb, List.forall_mem_cons.mpr ⟨lwc_44_tb, List.forall_mem_cons.mpr ⟨lwc_45_tb, List.forall_mem_cons.mpr ⟨lwc_46_tb, List.forall_mem_cons.mpr ⟨lwc_47_tb, List.forall_mem_cons.mpr ⟨lwc_48_tb, List.forall_mem_cons.mpr ⟨lwc_49_tb, List.forall_mem_cons.mpr ⟨lwc_50_tb, List.forall_mem_cons.mpr ⟨lwc_51_tb, List.forall_mem_cons.mpr ⟨lwc_52_tb, List.forall_mem_cons.mpr ⟨lwc_53_tb, List.forall_mem_cons.mpr ⟨lwc_54_tb, List.forall_mem_cons.mpr ⟨lwc_55_tb, fun _ h => absurd h List.not_mem_nil⟩⟩⟩⟩⟩⟩⟩⟩⟩⟩⟩⟩⟩⟩⟩⟩⟩⟩⟩⟩⟩⟩⟩⟩⟩⟩⟩⟩⟩⟩⟩⟩⟩⟩⟩⟩⟩⟩⟩⟩⟩⟩⟩⟩⟩⟩⟩⟩⟩⟩⟩⟩⟩⟩⟩⟩
theorem wsL_law_in0 : ∀ w ∈ wsL_law0, w ∈ lw_tbl2 := by
  intro w h
  rw [wsL_law0_eq] at h
  obtain ⟨ch, h1, h2⟩ := List.mem_flatten.mp h
  exact wsL_lawC_tb ch h1 w h2
theorem wsL_law_x0 : ∀ w ∈ (vx_atS RX5 86 "java/lang/IllegalStateException" ["java/lang/RuntimeException", "java/lang/Exception"]).filter goodWord, w ∈ lw_tbl2 := by decide +kernel
theorem wsL_law_x1 : ∀ w ∈ (vx_atS RX5 96 "java/lang/IllegalArgumentException" ["java/lang/RuntimeException", "java/lang/Exception"]).filter goodWord, w ∈ lw_tbl2 := by decide +kernel
theorem wsL_law_x2 : ∀ w ∈ (vx_atS RX5 334 "java/util/NoSuchElementException" ["java/lang/RuntimeException", "java/lang/Exception"]).filter goodWord, w ∈ lw_tbl2 := by decide +kernel
theorem wsL_law_in : ∀ w ∈ wsL_law, w ∈ lw_tbl2 := fun w h => (List.mem_append.mp h).elim (fun h => (List.mem_append.mp h).elim (fun h => (List.mem_append.mp h).elim (fun h => wsL_law_in0 w h) (fun h => wsL_law_x0 w h)) (fun h => wsL_law_x1 w h)) (fun h => wsL_law_x2 w h)
theorem inlX0 : ∀ w ∈ wsX00, w ∈ wsL_law := fun _ h => List.mem_append_left _ (List.mem_append_left _ (List.mem_append_left _ (List.mem_append_left _ (List.mem_append_left _ (List.mem_append_left _ (List.mem_append_left _ (List.mem_append_right _ h)))))))
theorem inX0 : ∀ w ∈ wsX00, w ∈ lw_tbl2 := fun w h => wsL_law_in w (inlX0 w h)
theorem inlX1 : ∀ w ∈ wsX10, w ∈ wsL_law := fun _ h => List.mem_append_left _ (List.mem_append_left _ (List.mem_append_left _ (List.mem_append_left _ (List.mem_append_left _ (List.mem_append_left _ (List.mem_append_left _ (List.mem_append_left _ (List.mem_append_left _ (List.mem_append_left _ (List.mem_append_right _ h))))))))))
theorem inX1 : ∀ w ∈ wsX10, w ∈ lw_tbl2 := fun w h => wsL_law_in w (inlX1 w h)
theorem inlX2 : ∀ w ∈ wsX20, w ∈ wsL_law := fun _ h => List.mem_append_left _ (List.mem_append_left _ (List.mem_append_left _ (List.mem_append_left _ (List.mem_append_left _ (List.mem_append_left _ (List.mem_append_left _ (List.mem_append_left _ (List.mem_append_right _ h))))))))
theorem inX2 : ∀ w ∈ wsX20, w ∈ lw_tbl2 := fun w h => wsL_law_in w (inlX2 w h)
theorem inlX3 : ∀ w ∈ wsX30, w ∈ wsL_law := fun _ h => List.mem_append_left _ (List.mem_append_left _ (List.mem_append_left _ (List.mem_append_left _ (List.mem_append_left _ (List.mem_append_left _ (List.mem_append_right _ h))))))
theorem inX3 : ∀ w ∈ wsX30, w ∈ lw_tbl2 := fun w h => wsL_law_in w (inlX3 w h)
theorem inlX4 : ∀ w ∈ wsX40, w ∈ wsL_law := fun _ h => List.mem_append_left _ (List.mem_append_left _ (List.mem_append_left _ (List.mem_append_left _ (List.mem_append_left _ (List.mem_append_left _ (List.mem_append_left _ (List.mem_append_left _ (List.mem_append_left _ (List.mem_append_right _ h)))))))))
theorem inX4 : ∀ w ∈ wsX40, w ∈ lw_tbl2 := fun w h => wsL_law_in w (inlX4 w h)
theorem inlX5 : ∀ w ∈ wsX50, w ∈ wsL_law := fun _ h => List.mem_append_left _ (List.mem_append_left _ (List.mem_append_left _ (List.mem_append_left _ (List.mem_append_left _ (List.mem_append_left _ (List.mem_append_left _ (List.mem_append_left _ (List.mem_append_left _ (List.mem_append_left _ (List.mem_append_left _ (List.mem_append_right _ h)))))))))))
theorem inX5 : ∀ w ∈ wsX50, w ∈ lw_tbl2 := fun w h => wsL_law_in w (inlX5 w h)
theorem inX6 : ∀ w ∈ wsX60, w ∈ lw_tbl2 := by decide +kernel
theorem inJx145de : ∀ w ∈ wsJx145de0, w ∈ lw_tbl2 := by decide +kernel
theorem inJ5 : ∀ w ∈ wsJ50, w ∈ lw_tbl2 := by decide +kernel
theorem inJx2cfe8 : ∀ w ∈ wsJx2cfe80, w ∈ lw_tbl2 := by decide +kernel
theorem inJx9f9b0 : ∀ w ∈ wsJx9f9b00, w ∈ lw_tbl2 := by decide +kernel
theorem inJx8e188 : ∀ w ∈ wsJx8e1880, w ∈ lw_tbl2 := by decide +kernel
theorem inJxb160c : ∀ w ∈ wsJxb160c0, w ∈ lw_tbl2 := by decide +kernel
theorem inJ6 : ∀ w ∈ wsJ60, w ∈ lw_tbl2 := by decide +kernel
theorem inJ9 : ∀ w ∈ wsJ90, w ∈ lw_tbl2 := by decide +kernel
theorem inJxd2413 : ∀ w ∈ wsJxd24130, w ∈ lw_tbl2 := by decide +kernel
theorem inlJ0 : ∀ w ∈ wsJ00, w ∈ wsL_law := fun _ h => List.mem_append_left _ (List.mem_append_left _ (List.mem_append_left _ (List.mem_append_left _ (List.mem_append_right _ h))))
theorem inJ0 : ∀ w ∈ wsJ00, w ∈ lw_tbl2 := fun w h => wsL_law_in w (inlJ0 w h)
theorem inlJ4 : ∀ w ∈ wsJ40, w ∈ wsL_law := fun _ h => List.mem_append_left _ (List.mem_append_left _ (List.mem_append_left _ (List.mem_append_left _ (List.mem_append_left _ (List.mem_append_right _ h)))))
theorem inJ4 : ∀ w ∈ wsJ40, w ∈ lw_tbl2 := fun w h => wsL_law_in w (inlJ4 w h)
theorem inJ1 : ∀ w ∈ wsJ10, w ∈ lw_tbl2 := by decide +kernel
theorem inJ2 : ∀ w ∈ wsJ20, w ∈ lw_tbl2 := by decide +kernel
theorem inJ10 : ∀ w ∈ wsJ100, w ∈ lw_tbl2 := by decide +kernel
theorem inJxfd54e : ∀ w ∈ wsJxfd54e0, w ∈ lw_tbl2 := by decide +kernel
theorem inJx3cf43 : ∀ w ∈ wsJx3cf430, w ∈ lw_tbl2 := by decide +kernel
theorem inJ7 : ∀ w ∈ wsJ70, w ∈ lw_tbl2 := by decide +kernel
theorem inJ8 : ∀ w ∈ wsJ80, w ∈ lw_tbl2 := by decide +kernel
theorem inJ3 : ∀ w ∈ wsJ30, w ∈ lw_tbl2 := by decide +kernel
