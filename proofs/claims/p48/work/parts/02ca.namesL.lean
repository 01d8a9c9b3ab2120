def lwc_18 : List Cond := wsL_law0_r17
set_option maxRecDepth 20000 in
theorem lwc_18_tb : ∀ w ∈ lwc_18, w ∈ lw_tbl2 := goodIn_m lw_tC lw_tC_in _ [(4, 217), (4, 114), (3, 23), (3, 218), (4, 219), (4, 221), (1, 2), (4, 222), (4, 223), (4, 224), (4, 225), (4, 226), (4, 39), (3, 22), (3, 99), (3, 43), (4, 228), (4, 229), (4, 230), (4, 231), (4, 232), (3, 102), (3, 100), (3, 103)] (by decide +kernel)
def lwc_19 : List Cond := wsL_law0_r18
set_option maxRecDepth 20000 in
theorem lwc_19_tb : ∀ w ∈ lwc_19, w ∈ lw_tbl2 := goodIn_m lw_tC lw_tC_in _ [(3, 105), (3, 107), (3, 41), (4, 235), (4, 236), (4, 237), (4, 238), (4, 239), (5, 1), (1, 3), (5, 2), (3, 104), (5, 3), (5, 5), (1, 4), (5, 6), (5, 7), (5, 9), (1, 5), (5, 10), (5, 11), (5, 13), (1, 6), (5, 14)] (by decide +kernel)
def lwc_20 : List Cond := wsL_law0_r19
set_option maxRecDepth 20000 in
theorem lwc_20_tb : ∀ w ∈ lwc_20, w ∈ lw_tbl2 := goodIn_m lw_tC lw_tC_in _ [(5, 15), (5, 17), (1, 7), (5, 18), (3, 106), (5, 20), (5, 22), (1, 8), (5, 23), (5, 24), (5, 25), (5, 26), (5, 28), (1, 9), (5, 29), (5, 30), (5, 32), (1, 10), (5, 33), (5, 35), (5, 37), (1, 11), (5, 38), (5, 39)] (by decide +kernel)
def lwc_21 : List Cond := wsL_law0_r20
set_option maxRecDepth 20000 in
theorem lwc_21_tb : ∀ w ∈ lwc_21, w ∈ lw_tbl2 := goodIn_m lw_tC lw_tC_in _ [(5, 41), (1, 12), (5, 42), (5, 43), (5, 46), (5, 48), (1, 13), (5, 49), (5, 50), (5, 52), (1, 14), (5, 53), (5, 54), (5, 55), (5, 56), (5, 57), (5, 58), (5, 60), (1, 15), (5, 61), (3, 54), (5, 62), (5, 63), (5, 64)] (by decide +kernel)
def lwc_22 : List Cond := wsL_law0_r21
set_option maxRecDepth 20000 in
theorem lwc_22_tb : ∀ w ∈ lwc_22, w ∈ lw_tbl2 := goodIn_m lw_tC lw_tC_in _ [(5, 65), (5, 66), (5, 68), (5, 70), (2, 0), (5, 71), (5, 72), (4, 149), (4, 139), (4, 140), (4, 141), (4, 142), (4, 145), (4, 146), (4, 147), (4, 148), (3, 184), (3, 185), (5, 74), (5, 75), (5, 76), (5, 77), (3, 139), (3, 140)] (by decide +kernel)
def lwc_23 : List Cond := wsL_law0_r22a
set_option maxRecDepth 20000 in
theorem lwc_23_tb : ∀ w ∈ lwc_23, w ∈ lw_tbl2 := goodIn_m lw_tC lw_tC_in _ [(4, 150), (4, 151), (4, 152), (4, 153), (4, 110), (4, 111), (4, 112), (6, 182), (6, 183)] (by decide +kernel)
def lwc_24 : List Cond := wsL_law0_r22b
theorem lwc_24_tb : ∀ w ∈ lwc_24, w ∈ lw_tbl2 := fun w h => by
  rw [List.mem_singleton.mp h]
  exact lw_tC_in _ (List.mem_of_getElem? (i := 6) rfl) _ (List.mem_of_getElem? (i := 184) rfl)
def lwc_25 : List Cond := wsL_law0_r22c
set_option maxRecDepth 20000 in
theorem lwc_25_tb : ∀ w ∈ lwc_25, w ∈ lw_tbl2 := goodIn_m lw_tC lw_tC_in _ [(6, 185), (4, 6), (4, 7), (4, 8), (4, 9), (3, 53), (3, 46), (3, 64), (3, 66), (4, 10), (4, 11), (4, 12), (4, 13), (4, 14)] (by decide +kernel)
def lwc_26 : List Cond := wsL_law0_r23
set_option maxRecDepth 20000 in
theorem lwc_26_tb : ∀ w ∈ lwc_26, w ∈ lw_tbl2 := goodIn_m lw_tC lw_tC_in _ [(4, 15), (4, 16), (4, 17), (4, 18), (4, 19), (3, 40), (3, 155), (3, 156), (3, 45), (3, 48), (3, 51), (3, 56), (3, 60), (4, 20), (4, 21), (4, 22), (4, 23), (4, 24), (4, 25), (4, 26), (4, 27), (4, 28), (4, 29), (4, 30)] (by decide +kernel)
def lwc_27 : List Cond := wsL_law0_r24
set_option maxRecDepth 20000 in
theorem lwc_27_tb : ∀ w ∈ lwc_27, w ∈ lw_tbl2 := goodIn_m lw_tC lw_tC_in _ [(4, 31), (4, 32), (4, 33), (4, 34), (4, 35), (4, 36), (6, 186), (6, 187), (6, 188), (6, 189), (3, 49), (5, 130), (5, 132), (2, 2), (5, 133), (5, 102), (3, 24), (5, 134), (6, 190), (6, 191), (6, 192), (6, 193), (6, 194), (6, 195)] (by decide +kernel)
def lwc_28 : List Cond := wsL_law0_r25
set_option maxRecDepth 20000 in
theorem lwc_28_tb : ∀ w ∈ lwc_28, w ∈ lw_tbl2 := goodIn_m lw_tC lw_tC_in _ [(6, 196), (6, 197), (6, 198), (6, 199), (6, 200), (6, 201), (6, 202), (6, 204), (2, 4), (6, 205), (6, 206), (6, 207), (6, 208), (6, 209), (3, 183), (3, 42), (6, 210), (6, 211), (6, 212), (6, 213), (6, 214), (6, 215), (6, 216), (6, 164)] (by decide +kernel)
def lwc_29 : List Cond := wsL_law0_r26
set_option maxRecDepth 20000 in
theorem lwc_29_tb : ∀ w ∈ lwc_29, w ∈ lw_tbl2 := goodIn_m lw_tC lw_tC_in _ [(6, 165), (6, 166), (6, 167), (6, 168), (6, 169), (6, 170), (6, 217), (6, 218), (6, 219), (6, 220), (6, 222), (2, 5), (6, 223), (6, 224), (6, 225), (6, 226), (6, 227), (6, 228), (6, 229), (6, 230), (3, 58), (3, 62), (5, 98), (5, 100)] (by decide +kernel)
def lwc_30 : List Cond := wsL_law0_r27
set_option maxRecDepth 20000 in
theorem lwc_30_tb : ∀ w ∈ lwc_30, w ∈ lw_tbl2 := goodIn_m lw_tC lw_tC_in _ [(2, 1), (5, 101), (6, 232), (6, 233), (6, 234), (6, 235), (3, 68), (6, 178), (6, 179), (6, 180), (6, 147), (6, 148), (6, 149), (6, 150), (6, 151), (6, 152), (6, 153), (3, 157), (6, 154), (6, 155), (6, 156), (6, 158), (6, 160), (2, 3)] (by decide +kernel)
def lwc_31 : List Cond := wsL_law0_r28
set_option maxRecDepth 20000 in
theorem lwc_31_tb : ∀ w ∈ lwc_31, w ∈ lw_tbl2 := goodIn_m lw_tC lw_tC_in _ [(6, 161), (6, 163), (6, 171), (6, 172), (6, 173), (5, 93), (6, 174), (6, 175), (6, 176), (6, 177), (4, 130), (4, 132), (1, 1), (4, 133), (4, 134), (4, 135), (4, 136), (4, 137), (4, 138), (5, 90), (5, 91), (5, 92), (5, 94), (5, 95)] (by decide +kernel)
def lwc_32 : List Cond := wsL_law0_r29a
set_option maxRecDepth 20000 in
theorem lwc_32_tb : ∀ w ∈ lwc_32, w ∈ lw_tbl2 := goodIn_m lw_tC lw_tC_in _ [(5, 96), (5, 97), (5, 119), (5, 120), (5, 121), (5, 122), (5, 123), (5, 124), (5, 125), (5, 126), (5, 127), (5, 128), (5, 129), (5, 136), (7, 95), (7, 96)] (by decide +kernel)
def lwc_33 : List Cond := wsL_law0_r29b
theorem lwc_33_tb : ∀ w ∈ lwc_33, w ∈ lw_tbl2 := fun w h => by
  rw [List.mem_singleton.mp h]
  exact lw_tC_in _ (List.mem_of_getElem? (i := 7) rfl) _ (List.mem_of_getElem? (i := 97) rfl)
def lwc_34 : List Cond := wsL_law0_r29c
set_option maxRecDepth 20000 in
theorem lwc_34_tb : ∀ w ∈ lwc_34, w ∈ lw_tbl2 := goodIn_m lw_tC lw_tC_in _ [(7, 98), (7, 99), (7, 100), (7, 101), (7, 102), (7, 103), (7, 104)] (by decide +kernel)
def lwc_35 : List Cond := wsL_law0_r30
set_option maxRecDepth 20000 in
theorem lwc_35_tb : ∀ w ∈ lwc_35, w ∈ lw_tbl2 := goodIn_m lw_tC lw_tC_in _ [(7, 105), (7, 106), (6, 239), (7, 0), (7, 1), (7, 2), (7, 107), (7, 108), (7, 109), (7, 110), (7, 111), (7, 112), (7, 113), (7, 114), (7, 115), (7, 116), (7, 117), (7, 118), (7, 119), (7, 120), (7, 121), (7, 122), (7, 123), (7, 124)] (by decide +kernel)
def lwc_36 : List Cond := wsL_law0_r31
set_option maxRecDepth 20000 in
theorem lwc_36_tb : ∀ w ∈ lwc_36, w ∈ lw_tbl2 := goodIn_m lw_tC lw_tC_in _ [(7, 125), (7, 126), (7, 127), (7, 128), (7, 129), (7, 130), (7, 131), (7, 132), (7, 133), (7, 134), (7, 135), (7, 136), (7, 137), (7, 138), (7, 139), (7, 140), (7, 141), (7, 142), (7, 143), (7, 144), (7, 145), (7, 146), (7, 147), (7, 64)] (by decide +kernel)
