/-! ===== BEGIN printed: names, fields, word lists, decode rows ===== -/
def RX0 : String := "ParityGame$Board"
def TX0 : u_T := fun k => match k with
  | 0 => ("ParityGame$Board", "places", "I", false)
  | 1 => ("ParityGame$Board", "all", "I", false)
  | 2 => ("ParityGame$Board", "owned", "[I", true)
  | 3 => ("ParityGame$Board", "calling", "[I", true)
  | _ => ("ParityGame$Board", "next", "[I", true)
def tyX0 : Nat → FieldType := fun k => match k with
  | 0 => .int
  | 1 => .int
  | 2 => .array .int
  | 3 => .array .int
  | _ => .array .int
abbrev wsX00 : List Cond := u_ws RX0 TX0 5
theorem nmX0 : ∀ a, a < 5 → ∀ b, b < 5 → a ≠ b → (TX0 a).2.1 ≠ (TX0 b).2.1 := by decide +kernel
theorem tyX0_ok : ∀ k, k < 5 → parseFieldDescriptor (TX0 k).2.2.1 = some (tyX0 k) := by decide +kernel
abbrev cX0_init : ByteArray := prog_2_method_1_code
def yX0_init : MethodName := ⟨RX0, "<init>", "()V"⟩
abbrev cX0_take : ByteArray := prog_2_method_2_code
def yX0_take : MethodName := ⟨RX0, "take", "(LParityGame$Game;)V"⟩
abbrev cX0_join : ByteArray := prog_2_method_3_code
def yX0_join : MethodName := ⟨RX0, "join", "(II)V"⟩
abbrev cX0_cut : ByteArray := prog_2_method_4_code
def yX0_cut : MethodName := ⟨RX0, "cut", "(II)V"⟩
abbrev cX0_changeOwner : ByteArray := prog_2_method_5_code
def yX0_changeOwner : MethodName := ⟨RX0, "changeOwner", "(I)V"⟩
abbrev cX0_changeCall : ByteArray := prog_2_method_6_code
def yX0_changeCall : MethodName := ⟨RX0, "changeCall", "(II)V"⟩
abbrev cX0_differentCalls : ByteArray := prog_2_method_7_code
def yX0_differentCalls : MethodName := ⟨RX0, "differentCalls", "()I"⟩
abbrev cX0_deadEnds : ByteArray := prog_2_method_8_code
def yX0_deadEnds : MethodName := ⟨RX0, "deadEnds", "()I"⟩
abbrev cX0_before : ByteArray := prog_2_method_9_code
def yX0_before : MethodName := ⟨RX0, "before", "(IIII)I"⟩
abbrev cX0_attract : ByteArray := prog_2_method_10_code
def yX0_attract : MethodName := ⟨RX0, "attract", "(III)I"⟩
abbrev cX0_distance : ByteArray := prog_2_method_11_code
def yX0_distance : MethodName := ⟨RX0, "distance", "(III)I"⟩
abbrev cX0_stayingIn : ByteArray := prog_2_method_12_code
def yX0_stayingIn : MethodName := ⟨RX0, "stayingIn", "(II)I"⟩
abbrev cX0_comingBackTo : ByteArray := prog_2_method_13_code
def yX0_comingBackTo : MethodName := ⟨RX0, "comingBackTo", "(II)I"⟩
abbrev cX0_isClosedFor : ByteArray := prog_2_method_14_code
def yX0_isClosedFor : MethodName := ⟨RX0, "isClosedFor", "(II)Z"⟩
abbrev cX0_wonBy : ByteArray := prog_2_method_15_code
def yX0_wonBy : MethodName := ⟨RX0, "wonBy", "(I)I"⟩
abbrev cX0_wonEndless : ByteArray := prog_2_method_16_code
def yX0_wonEndless : MethodName := ⟨RX0, "wonEndless", "(LParityGame$Board;II)I"⟩
abbrev cX0_greatestCall : ByteArray := prog_2_method_17_code
def yX0_greatestCall : MethodName := ⟨RX0, "greatestCall", "(II)I"⟩
def RX1 : String := "ParityGame$Game"
def TX1 : u_T := fun k => match k with
  | 0 => ("ParityGame$Game", "places", "I", false)
  | 1 => ("ParityGame$Game", "odd", "I", false)
  | 2 => ("ParityGame$Game", "calls", "[I", true)
  | 3 => ("ParityGame$Game", "moves", "I", false)
  | 4 => ("ParityGame$Game", "from", "[I", true)
  | 5 => ("ParityGame$Game", "to", "[I", true)
  | 6 => ("ParityGame$Game", "token", "I", false)
  | 7 => ("ParityGame$Game", "made", "I", false)
  | _ => ("ParityGame$Game", "heard", "[I", true)
def tyX1 : Nat → FieldType := fun k => match k with
  | 0 => .int
  | 1 => .int
  | 2 => .array .int
  | 3 => .int
  | 4 => .array .int
  | 5 => .array .int
  | 6 => .int
  | 7 => .int
  | _ => .array .int
abbrev wsX10 : List Cond := u_ws RX1 TX1 9
theorem nmX1 : ∀ a, a < 9 → ∀ b, b < 9 → a ≠ b → (TX1 a).2.1 ≠ (TX1 b).2.1 := by decide +kernel
theorem tyX1_ok : ∀ k, k < 9 → parseFieldDescriptor (TX1 k).2.2.1 = some (tyX1 k) := by decide +kernel
abbrev cX1_init : ByteArray := prog_3_method_1_code
def yX1_init : MethodName := ⟨RX1, "<init>", "()V"⟩
abbrev cX1_clear : ByteArray := prog_3_method_2_code
def yX1_clear : MethodName := ⟨RX1, "clear", "()V"⟩
abbrev cX1_copy : ByteArray := prog_3_method_3_code
def yX1_copy : MethodName := ⟨RX1, "copy", "(LParityGame$Game;)V"⟩
abbrev cX1_hasPlace : ByteArray := prog_3_method_4_code
def yX1_hasPlace : MethodName := ⟨RX1, "hasPlace", "(I)Z"⟩
abbrev cX1_ownerOf : ByteArray := prog_3_method_5_code
def yX1_ownerOf : MethodName := ⟨RX1, "ownerOf", "(I)I"⟩
abbrev cX1_greatestCall : ByteArray := prog_3_method_6_code
def yX1_greatestCall : MethodName := ⟨RX1, "greatestCall", "()I"⟩
abbrev cX1_movesFrom : ByteArray := prog_3_method_7_code
def yX1_movesFrom : MethodName := ⟨RX1, "movesFrom", "(I)I"⟩
abbrev cX1_movesTo : ByteArray := prog_3_method_8_code
def yX1_movesTo : MethodName := ⟨RX1, "movesTo", "(I)I"⟩
abbrev cX1_findMove : ByteArray := prog_3_method_9_code
def yX1_findMove : MethodName := ⟨RX1, "findMove", "(II)I"⟩
abbrev cX1_firstMove : ByteArray := prog_3_method_10_code
def yX1_firstMove : MethodName := ⟨RX1, "firstMove", "(I)I"⟩
abbrev cX1_appendPlace : ByteArray := prog_3_method_11_code
def yX1_appendPlace : MethodName := ⟨RX1, "appendPlace", "(II)V"⟩
abbrev cX1_appendMove : ByteArray := prog_3_method_12_code
def yX1_appendMove : MethodName := ⟨RX1, "appendMove", "(II)V"⟩
abbrev cX1_dropMove : ByteArray := prog_3_method_13_code
def yX1_dropMove : MethodName := ⟨RX1, "dropMove", "(I)V"⟩
abbrev cX1_bringToFront : ByteArray := prog_3_method_16_code
def yX1_bringToFront : MethodName := ⟨RX1, "bringToFront", "(I)V"⟩
abbrev cX1_layAt : ByteArray := prog_3_method_17_code
def yX1_layAt : MethodName := ⟨RX1, "layAt", "(I)V"⟩
abbrev cX1_step : ByteArray := prog_3_method_18_code
def yX1_step : MethodName := ⟨RX1, "step", "(I)V"⟩
def RX2 : String := "ParityGame$History"
def TX2 : u_T := fun k => match k with
  | 0 => ("ParityGame$History", "ring", "[LParityGame$Game;", true)
  | 1 => ("ParityGame$History", "first", "I", false)
  | _ => ("ParityGame$History", "kept", "I", false)
def tyX2 : Nat → FieldType := fun k => match k with
  | 0 => .array (.object "ParityGame$Game")
  | 1 => .int
  | _ => .int
abbrev wsX20 : List Cond := u_ws RX2 TX2 3
theorem nmX2 : ∀ a, a < 3 → ∀ b, b < 3 → a ≠ b → (TX2 a).2.1 ≠ (TX2 b).2.1 := by decide +kernel
theorem tyX2_ok : ∀ k, k < 3 → parseFieldDescriptor (TX2 k).2.2.1 = some (tyX2 k) := by decide +kernel
abbrev cX2_init : ByteArray := prog_4_method_1_code
def yX2_init : MethodName := ⟨RX2, "<init>", "()V"⟩
abbrev cX2_clear : ByteArray := prog_4_method_2_code
def yX2_clear : MethodName := ⟨RX2, "clear", "()V"⟩
abbrev cX2_keep : ByteArray := prog_4_method_3_code
def yX2_keep : MethodName := ⟨RX2, "keep", "(LParityGame$Game;)V"⟩
abbrev cX2_takeLatest : ByteArray := prog_4_method_4_code
def yX2_takeLatest : MethodName := ⟨RX2, "takeLatest", "(LParityGame$Game;)V"⟩
def RX3 : String := "ParityGame$Plan"
def TX3 : u_T := fun k => match k with
  | 0 => ("ParityGame$Plan", "board", "LParityGame$Board;", true)
  | 1 => ("ParityGame$Plan", "chosen", "[I", true)
  | 2 => ("ParityGame$Plan", "zero", "I", false)
  | 3 => ("ParityGame$Plan", "zeroKnown", "Z", false)
  | _ => ("ParityGame$Plan", "chosenKnown", "Z", false)
def tyX3 : Nat → FieldType := fun k => match k with
  | 0 => .object "ParityGame$Board"
  | 1 => .array .int
  | 2 => .int
  | 3 => .boolean
  | _ => .boolean
abbrev wsX30 : List Cond := u_ws RX3 TX3 5
theorem nmX3 : ∀ a, a < 5 → ∀ b, b < 5 → a ≠ b → (TX3 a).2.1 ≠ (TX3 b).2.1 := by decide +kernel
theorem tyX3_ok : ∀ k, k < 5 → parseFieldDescriptor (TX3 k).2.2.1 = some (tyX3 k) := by decide +kernel
abbrev cX3_init : ByteArray := prog_5_method_1_code
def yX3_init : MethodName := ⟨RX3, "<init>", "(LParityGame$Board;)V"⟩
abbrev cX3_forget : ByteArray := prog_5_method_2_code
def yX3_forget : MethodName := ⟨RX3, "forget", "()V"⟩
abbrev cX3_wonBy : ByteArray := prog_5_method_3_code
def yX3_wonBy : MethodName := ⟨RX3, "wonBy", "(LParityGame$Game;I)I"⟩
abbrev cX3_choose : ByteArray := prog_5_method_4_code
def yX3_choose : MethodName := ⟨RX3, "choose", "(LParityGame$Game;)V"⟩
abbrev cX3_winningMove : ByteArray := prog_5_method_5_code
def yX3_winningMove : MethodName := ⟨RX3, "winningMove", "(LParityGame$Game;II)I"⟩
def RX4 : String := "ParityGame$Reader"
def TX4 : u_T := fun k => match k with
  | 0 => ("ParityGame$Reader", "text", "[I", true)
  | 1 => ("ParityGame$Reader", "game", "LParityGame$Game;", true)
  | 2 => ("ParityGame$Reader", "error", "I", false)
  | 3 => ("ParityGame$Reader", "errorAt", "I", false)
  | 4 => ("ParityGame$Reader", "length", "I", false)
  | 5 => ("ParityGame$Reader", "kind", "I", false)
  | 6 => ("ParityGame$Reader", "start", "I", false)
  | 7 => ("ParityGame$Reader", "end", "I", false)
  | 8 => ("ParityGame$Reader", "value", "I", false)
  | _ => ("ParityGame$Reader", "laid", "I", false)
def tyX4 : Nat → FieldType := fun k => match k with
  | 0 => .array .int
  | 1 => .object "ParityGame$Game"
  | 2 => .int
  | 3 => .int
  | 4 => .int
  | 5 => .int
  | 6 => .int
  | 7 => .int
  | 8 => .int
  | _ => .int
abbrev wsX40 : List Cond := u_ws RX4 TX4 10
theorem nmX4 : ∀ a, a < 10 → ∀ b, b < 10 → a ≠ b → (TX4 a).2.1 ≠ (TX4 b).2.1 := by decide +kernel
theorem tyX4_ok : ∀ k, k < 10 → parseFieldDescriptor (TX4 k).2.2.1 = some (tyX4 k) := by decide +kernel
abbrev cX4_init : ByteArray := prog_6_method_1_code
def yX4_init : MethodName := ⟨RX4, "<init>", "([I)V"⟩
abbrev cX4_read : ByteArray := prog_6_method_2_code
def yX4_read : MethodName := ⟨RX4, "read", "(I)Z"⟩
abbrev cX4_fail : ByteArray := prog_6_method_3_code
def yX4_fail : MethodName := ⟨RX4, "fail", "(I)V"⟩
abbrev cX4_readLine : ByteArray := prog_6_method_4_code
def yX4_readLine : MethodName := ⟨RX4, "readLine", "()V"⟩
abbrev cX4_readPlaces : ByteArray := prog_6_method_5_code
def yX4_readPlaces : MethodName := ⟨RX4, "readPlaces", "(I)V"⟩
abbrev cX4_readCall : ByteArray := prog_6_method_6_code
def yX4_readCall : MethodName := ⟨RX4, "readCall", "(I)V"⟩
abbrev cX4_readMoves : ByteArray := prog_6_method_7_code
def yX4_readMoves : MethodName := ⟨RX4, "readMoves", "()V"⟩
abbrev cX4_readMoveTo : ByteArray := prog_6_method_8_code
def yX4_readMoveTo : MethodName := ⟨RX4, "readMoveTo", "(I)V"⟩
abbrev cX4_readToken : ByteArray := prog_6_method_9_code
def yX4_readToken : MethodName := ⟨RX4, "readToken", "()V"⟩
abbrev cX4_needPlaceNumber : ByteArray := prog_6_method_10_code
def yX4_needPlaceNumber : MethodName := ⟨RX4, "needPlaceNumber", "()V"⟩
abbrev cX4_advance : ByteArray := prog_6_method_11_code
def yX4_advance : MethodName := ⟨RX4, "advance", "()V"⟩
abbrev cX4_takeRun : ByteArray := prog_6_method_12_code
def yX4_takeRun : MethodName := ⟨RX4, "takeRun", "()V"⟩
abbrev cX4_blanksEnd : ByteArray := prog_6_method_13_code
def yX4_blanksEnd : MethodName := ⟨RX4, "blanksEnd", "(I)I"⟩
abbrev cX4_runEnd : ByteArray := prog_6_method_14_code
def yX4_runEnd : MethodName := ⟨RX4, "runEnd", "(CC)I"⟩
abbrev cX4_takeValue : ByteArray := prog_6_method_15_code
def yX4_takeValue : MethodName := ⟨RX4, "takeValue", "()V"⟩
abbrev cX4_isWord : ByteArray := prog_6_method_16_code
def yX4_isWord : MethodName := ⟨RX4, "isWord", "(Ljava/lang/String;)Z"⟩
def RX5 : String := "ParityGame"
def TX5 : u_T := fun k => match k with
  | 0 => ("ParityGame", "game", "LParityGame$Game;", true)
  | 1 => ("ParityGame", "reader", "LParityGame$Reader;", true)
  | 2 => ("ParityGame", "history", "LParityGame$History;", true)
  | 3 => ("ParityGame", "saved", "[LParityGame$Game;", true)
  | 4 => ("ParityGame", "isSaved", "[Z", true)
  | 5 => ("ParityGame", "board", "LParityGame$Board;", true)
  | 6 => ("ParityGame", "plan", "LParityGame$Plan;", true)
  | 7 => ("ParityGame", "seenAt", "[I", true)
  | 8 => ("ParityGame", "input", "[I", true)
  | 9 => ("ParityGame", "inputLength", "I", false)
  | 10 => ("ParityGame", "output", "[B", true)
  | _ => ("ParityGame", "outputLength", "I", false)
def tyX5 : Nat → FieldType := fun k => match k with
  | 0 => .object "ParityGame$Game"
  | 1 => .object "ParityGame$Reader"
  | 2 => .object "ParityGame$History"
  | 3 => .array (.object "ParityGame$Game")
  | 4 => .array .boolean
  | 5 => .object "ParityGame$Board"
  | 6 => .object "ParityGame$Plan"
  | 7 => .array .int
  | 8 => .array .int
  | 9 => .int
  | 10 => .array .byte
  | _ => .int
abbrev wsX50 : List Cond := u_ws RX5 TX5 12
theorem nmX5 : ∀ a, a < 12 → ∀ b, b < 12 → a ≠ b → (TX5 a).2.1 ≠ (TX5 b).2.1 := by decide +kernel
theorem tyX5_ok : ∀ k, k < 12 → parseFieldDescriptor (TX5 k).2.2.1 = some (tyX5 k) := by decide +kernel
abbrev cX5_init : ByteArray := prog_1_method_1_code
def yX5_init : MethodName := ⟨RX5, "<init>", "()V"⟩
abbrev cX5_feed : ByteArray := prog_1_method_2_code
def yX5_feed : MethodName := ⟨RX5, "feed", "(IIIII)I"⟩
abbrev cX5_load : ByteArray := prog_1_method_3_code
def yX5_load : MethodName := ⟨RX5, "load", "(I)I"⟩
abbrev cX5_size : ByteArray := prog_1_method_6_code
def yX5_size : MethodName := ⟨RX5, "size", "(I)I"⟩
abbrev cX5_place : ByteArray := prog_1_method_7_code
def yX5_place : MethodName := ⟨RX5, "place", "(II)I"⟩
abbrev cX5_move : ByteArray := prog_1_method_8_code
def yX5_move : MethodName := ⟨RX5, "move", "(II)I"⟩
abbrev cX5_moveBetween : ByteArray := prog_1_method_9_code
def yX5_moveBetween : MethodName := ⟨RX5, "moveBetween", "(II)I"⟩
abbrev cX5_heard : ByteArray := prog_1_method_10_code
def yX5_heard : MethodName := ⟨RX5, "heard", "(I)I"⟩
abbrev cX5_won : ByteArray := prog_1_method_11_code
def yX5_won : MethodName := ⟨RX5, "won", "(I)I"⟩
abbrev cX5_wonShare : ByteArray := prog_1_method_12_code
def yX5_wonShare : MethodName := ⟨RX5, "wonShare", "(I)F"⟩
abbrev cX5_plan : ByteArray := prog_1_method_15_code
def yX5_plan : MethodName := ⟨RX5, "plan", "(I)I"⟩
abbrev cX5_follow : ByteArray := prog_1_method_16_code
def yX5_follow : MethodName := ⟨RX5, "follow", "(II)I"⟩
abbrev cX5_play : ByteArray := prog_1_method_17_code
def yX5_play : MethodName := ⟨RX5, "play", "(II)I"⟩
abbrev cX5_pull : ByteArray := prog_1_method_18_code
def yX5_pull : MethodName := ⟨RX5, "pull", "(II)I"⟩
abbrev cX5_pullIn : ByteArray := prog_1_method_19_code
def yX5_pullIn : MethodName := ⟨RX5, "pullIn", "(III)I"⟩
abbrev cX5_stay : ByteArray := prog_1_method_20_code
def yX5_stay : MethodName := ⟨RX5, "stay", "(II)I"⟩
abbrev cX5_comeBack : ByteArray := prog_1_method_21_code
def yX5_comeBack : MethodName := ⟨RX5, "comeBack", "(II)I"⟩
abbrev cX5_isTrap : ByteArray := prog_1_method_22_code
def yX5_isTrap : MethodName := ⟨RX5, "isTrap", "(II)Z"⟩
abbrev cX5_wonIfCall : ByteArray := prog_1_method_24_code
def yX5_wonIfCall : MethodName := ⟨RX5, "wonIfCall", "(II)I"⟩
abbrev cX5_wonIfOther : ByteArray := prog_1_method_25_code
def yX5_wonIfOther : MethodName := ⟨RX5, "wonIfOther", "(I)I"⟩
abbrev cX5_wonWithout : ByteArray := prog_1_method_26_code
def yX5_wonWithout : MethodName := ⟨RX5, "wonWithout", "(I)I"⟩
abbrev cX5_wonWith : ByteArray := prog_1_method_27_code
def yX5_wonWith : MethodName := ⟨RX5, "wonWith", "(II)I"⟩
abbrev cX5_setOwner : ByteArray := prog_1_method_33_code
def yX5_setOwner : MethodName := ⟨RX5, "setOwner", "(II)I"⟩
abbrev cX5_setCall : ByteArray := prog_1_method_34_code
def yX5_setCall : MethodName := ⟨RX5, "setCall", "(II)I"⟩
abbrev cX5_addMove : ByteArray := prog_1_method_35_code
def yX5_addMove : MethodName := ⟨RX5, "addMove", "(II)I"⟩
abbrev cX5_removeMove : ByteArray := prog_1_method_36_code
def yX5_removeMove : MethodName := ⟨RX5, "removeMove", "(I)I"⟩
abbrev cX5_preferMove : ByteArray := prog_1_method_37_code
def yX5_preferMove : MethodName := ⟨RX5, "preferMove", "(I)I"⟩
abbrev cX5_exchange : ByteArray := prog_1_method_38_code
def yX5_exchange : MethodName := ⟨RX5, "exchange", "()I"⟩
abbrev cX5_lay : ByteArray := prog_1_method_39_code
def yX5_lay : MethodName := ⟨RX5, "lay", "(I)I"⟩
abbrev cX5_go : ByteArray := prog_1_method_40_code
def yX5_go : MethodName := ⟨RX5, "go", "(I)I"⟩
abbrev cX5_run : ByteArray := prog_1_method_41_code
def yX5_run : MethodName := ⟨RX5, "run", "(I)I"⟩
abbrev cX5_restore : ByteArray := prog_1_method_42_code
def yX5_restore : MethodName := ⟨RX5, "restore", "(I)I"⟩
abbrev cX5_undo : ByteArray := prog_1_method_43_code
def yX5_undo : MethodName := ⟨RX5, "undo", "()I"⟩
abbrev cX5_save : ByteArray := prog_1_method_44_code
def yX5_save : MethodName := ⟨RX5, "save", "(I)I"⟩
abbrev cX5_has : ByteArray := prog_1_method_47_code
def yX5_has : MethodName := ⟨RX5, "has", "(II)Z"⟩
abbrev cX5_needPlace : ByteArray := prog_1_method_48_code
def yX5_needPlace : MethodName := ⟨RX5, "needPlace", "(I)V"⟩
abbrev cX5_needMove : ByteArray := prog_1_method_49_code
def yX5_needMove : MethodName := ⟨RX5, "needMove", "(I)V"⟩
abbrev cX5_needSet : ByteArray := prog_1_method_50_code
def yX5_needSet : MethodName := ⟨RX5, "needSet", "(I)V"⟩
abbrev cX5_needPlayer : ByteArray := prog_1_method_51_code
def yX5_needPlayer : MethodName := ⟨RX5, "needPlayer", "(I)V"⟩
abbrev cX5_needCall : ByteArray := prog_1_method_52_code
def yX5_needCall : MethodName := ⟨RX5, "needCall", "(I)V"⟩
abbrev cX5_needSlot : ByteArray := prog_1_method_53_code
def yX5_needSlot : MethodName := ⟨RX5, "needSlot", "(I)V"⟩
abbrev cX5_beginChange : ByteArray := prog_1_method_54_code
def yX5_beginChange : MethodName := ⟨RX5, "beginChange", "()V"⟩
abbrev cX5_winnerOf : ByteArray := prog_1_method_55_code
def yX5_winnerOf : MethodName := ⟨RX5, "winnerOf", "(I)I"⟩
abbrev cX5_shareOf : ByteArray := prog_1_method_56_code
def yX5_shareOf : MethodName := ⟨RX5, "shareOf", "(I)F"⟩
abbrev cX5_lastOfPlay : ByteArray := prog_1_method_58_code
def yX5_lastOfPlay : MethodName := ⟨RX5, "lastOfPlay", "(I)I"⟩
abbrev cX5_placesSeen : ByteArray := prog_1_method_59_code
def yX5_placesSeen : MethodName := ⟨RX5, "placesSeen", "()I"⟩
abbrev cX5_greatestCallSince : ByteArray := prog_1_method_60_code
def yX5_greatestCallSince : MethodName := ⟨RX5, "greatestCallSince", "(I)I"⟩
abbrev cX5_appendFour : ByteArray := prog_1_method_61_code
def yX5_appendFour : MethodName := ⟨RX5, "appendFour", "(I)V"⟩
def RX6 : String := "ParityGameModel"
def TX6 : u_T := fun k => match k with
  | _ => ("", "", "", false)
def tyX6 : Nat → FieldType := fun k => match k with
  | _ => .int
abbrev wsX60 : List Cond := u_ws RX6 TX6 0
theorem nmX6 : ∀ a, a < 0 → ∀ b, b < 0 → a ≠ b → (TX6 a).2.1 ≠ (TX6 b).2.1 := by decide +kernel
theorem tyX6_ok : ∀ k, k < 0 → parseFieldDescriptor (TX6 k).2.2.1 = some (tyX6 k) := by decide +kernel
def RJx145de : String := "java/io/Serializable"
def TJx145de : u_T := fun k => match k with
  | _ => ("", "", "", false)
def tyJx145de : Nat → FieldType := fun k => match k with
  | _ => .int
abbrev wsJx145de0 : List Cond := u_ws RJx145de TJx145de 0
theorem nmJx145de : ∀ a, a < 0 → ∀ b, b < 0 → a ≠ b → (TJx145de a).2.1 ≠ (TJx145de b).2.1 := by decide +kernel
theorem tyJx145de_ok : ∀ k, k < 0 → parseFieldDescriptor (TJx145de k).2.2.1 = some (tyJx145de k) := by decide +kernel
def RJ5 : String := "java/lang/AbstractStringBuilder"
def TJ5 : u_T := fun k => match k with
  | _ => ("", "", "", false)
def tyJ5 : Nat → FieldType := fun k => match k with
  | _ => .int
abbrev wsJ50 : List Cond := u_ws RJ5 TJ5 0
theorem nmJ5 : ∀ a, a < 0 → ∀ b, b < 0 → a ≠ b → (TJ5 a).2.1 ≠ (TJ5 b).2.1 := by decide +kernel
theorem tyJ5_ok : ∀ k, k < 0 → parseFieldDescriptor (TJ5 k).2.2.1 = some (tyJ5 k) := by decide +kernel
abbrev cJ5_init_d00df : ByteArray := prog_10_method_2_code
def yJ5_init_d00df : MethodName := ⟨RJ5, "<init>", "(I)V"⟩
abbrev cJ5_init_a7421 : ByteArray := prog_10_method_3_code
def yJ5_init_a7421 : MethodName := ⟨RJ5, "<init>", "(Ljava/lang/String;)V"⟩
abbrev cJ5_length_8abf5 : ByteArray := prog_10_method_6_code
def yJ5_length_8abf5 : MethodName := ⟨RJ5, "length", "()I"⟩
abbrev cJ5_ensureCapacityInternal_d00df : ByteArray := prog_10_method_9_code
def yJ5_ensureCapacityInternal_d00df : MethodName := ⟨RJ5, "ensureCapacityInternal", "(I)V"⟩
abbrev cJ5_newCapacity_0f7a4 : ByteArray := prog_10_method_10_code
def yJ5_newCapacity_0f7a4 : MethodName := ⟨RJ5, "newCapacity", "(I)I"⟩
abbrev cJ5_inflate_da8c8 : ByteArray := prog_10_method_11_code
def yJ5_inflate_da8c8 : MethodName := ⟨RJ5, "inflate", "()V"⟩
abbrev cJ5_append_cf1ce : ByteArray := prog_10_method_22_code
def yJ5_append_cf1ce : MethodName := ⟨RJ5, "append", "(Ljava/lang/String;)Ljava/lang/AbstractStringBuilder;"⟩
abbrev cJ5_appendNull_278bc : ByteArray := prog_10_method_26_code
def yJ5_appendNull_278bc : MethodName := ⟨RJ5, "appendNull", "()Ljava/lang/AbstractStringBuilder;"⟩
abbrev cJ5_append_3fe6f : ByteArray := prog_10_method_31_code
def yJ5_append_3fe6f : MethodName := ⟨RJ5, "append", "(C)Ljava/lang/AbstractStringBuilder;"⟩
abbrev cJ5_append_c97b9 : ByteArray := prog_10_method_32_code
def yJ5_append_c97b9 : MethodName := ⟨RJ5, "append", "(I)Ljava/lang/AbstractStringBuilder;"⟩
abbrev cJ5_getValue_6d5f1 : ByteArray := prog_10_method_64_code
def yJ5_getValue_6d5f1 : MethodName := ⟨RJ5, "getValue", "()[B"⟩
abbrev cJ5_isLatin1_aae02 : ByteArray := prog_10_method_68_code
def yJ5_isLatin1_aae02 : MethodName := ⟨RJ5, "isLatin1", "()Z"⟩
abbrev cJ5_inflateIfNeededFor_a7421 : ByteArray := prog_10_method_71_code
def yJ5_inflateIfNeededFor_a7421 : MethodName := ⟨RJ5, "inflateIfNeededFor", "(Ljava/lang/String;)V"⟩
abbrev cJ5_putStringAt_47b60 : ByteArray := prog_10_method_73_code
def yJ5_putStringAt_47b60 : MethodName := ⟨RJ5, "putStringAt", "(ILjava/lang/String;)V"⟩
def RJx2cfe8 : String := "java/lang/Appendable"
def TJx2cfe8 : u_T := fun k => match k with
  | _ => ("", "", "", false)
def tyJx2cfe8 : Nat → FieldType := fun k => match k with
  | _ => .int
abbrev wsJx2cfe80 : List Cond := u_ws RJx2cfe8 TJx2cfe8 0
theorem nmJx2cfe8 : ∀ a, a < 0 → ∀ b, b < 0 → a ≠ b → (TJx2cfe8 a).2.1 ≠ (TJx2cfe8 b).2.1 := by decide +kernel
theorem tyJx2cfe8_ok : ∀ k, k < 0 → parseFieldDescriptor (TJx2cfe8 k).2.2.1 = some (tyJx2cfe8 k) := by decide +kernel
def RJx9f9b0 : String := "java/lang/CharSequence"
def TJx9f9b0 : u_T := fun k => match k with
  | _ => ("", "", "", false)
def tyJx9f9b0 : Nat → FieldType := fun k => match k with
  | _ => .int
abbrev wsJx9f9b00 : List Cond := u_ws RJx9f9b0 TJx9f9b0 0
theorem nmJx9f9b0 : ∀ a, a < 0 → ∀ b, b < 0 → a ≠ b → (TJx9f9b0 a).2.1 ≠ (TJx9f9b0 b).2.1 := by decide +kernel
theorem tyJx9f9b0_ok : ∀ k, k < 0 → parseFieldDescriptor (TJx9f9b0 k).2.2.1 = some (tyJx9f9b0 k) := by decide +kernel
def RJx8e188 : String := "java/lang/Cloneable"
def TJx8e188 : u_T := fun k => match k with
  | _ => ("", "", "", false)
def tyJx8e188 : Nat → FieldType := fun k => match k with
  | _ => .int
abbrev wsJx8e1880 : List Cond := u_ws RJx8e188 TJx8e188 0
theorem nmJx8e188 : ∀ a, a < 0 → ∀ b, b < 0 → a ≠ b → (TJx8e188 a).2.1 ≠ (TJx8e188 b).2.1 := by decide +kernel
theorem tyJx8e188_ok : ∀ k, k < 0 → parseFieldDescriptor (TJx8e188 k).2.2.1 = some (tyJx8e188 k) := by decide +kernel
def RJxb160c : String := "java/lang/Comparable"
def TJxb160c : u_T := fun k => match k with
  | _ => ("", "", "", false)
def tyJxb160c : Nat → FieldType := fun k => match k with
  | _ => .int
abbrev wsJxb160c0 : List Cond := u_ws RJxb160c TJxb160c 0
theorem nmJxb160c : ∀ a, a < 0 → ∀ b, b < 0 → a ≠ b → (TJxb160c a).2.1 ≠ (TJxb160c b).2.1 := by decide +kernel
theorem tyJxb160c_ok : ∀ k, k < 0 → parseFieldDescriptor (TJxb160c k).2.2.1 = some (tyJxb160c k) := by decide +kernel
def RJ6 : String := "java/lang/Integer"
def TJ6 : u_T := fun k => match k with
  | _ => ("", "", "", false)
def tyJ6 : Nat → FieldType := fun k => match k with
  | _ => .int
abbrev wsJ60 : List Cond := u_ws RJ6 TJ6 0
theorem nmJ6 : ∀ a, a < 0 → ∀ b, b < 0 → a ≠ b → (TJ6 a).2.1 ≠ (TJ6 b).2.1 := by decide +kernel
theorem tyJ6_ok : ∀ k, k < 0 → parseFieldDescriptor (TJ6 k).2.2.1 = some (tyJ6 k) := by decide +kernel
abbrev cJ6_getChars_ba4f3 : ByteArray := prog_18_method_12_code
def yJ6_getChars_ba4f3 : MethodName := ⟨RJ6, "getChars", "(II[B)I"⟩
abbrev cJ6_stringSize_0f7a4 : ByteArray := prog_18_method_13_code
def yJ6_stringSize_0f7a4 : MethodName := ⟨RJ6, "stringSize", "(I)I"⟩
abbrev cJ6_bitCount_0f7a4 : ByteArray := prog_18_method_49_code
def yJ6_bitCount_0f7a4 : MethodName := ⟨RJ6, "bitCount", "(I)I"⟩
def RJ9 : String := "java/lang/Math"
def TJ9 : u_T := fun k => match k with
  | _ => ("", "", "", false)
def tyJ9 : Nat → FieldType := fun k => match k with
  | _ => .int
abbrev wsJ90 : List Cond := u_ws RJ9 TJ9 0
theorem nmJ9 : ∀ a, a < 0 → ∀ b, b < 0 → a ≠ b → (TJ9 a).2.1 ≠ (TJ9 b).2.1 := by decide +kernel
theorem tyJ9_ok : ∀ k, k < 0 → parseFieldDescriptor (TJ9 k).2.2.1 = some (tyJ9 k) := by decide +kernel
abbrev cJ9_max_7cf53 : ByteArray := prog_19_method_65_code
def yJ9_max_7cf53 : MethodName := ⟨RJ9, "max", "(II)I"⟩
abbrev cJ9_min_7cf53 : ByteArray := prog_19_method_69_code
def yJ9_min_7cf53 : MethodName := ⟨RJ9, "min", "(II)I"⟩
def RJxd2413 : String := "java/lang/Number"
def TJxd2413 : u_T := fun k => match k with
  | _ => ("", "", "", false)
def tyJxd2413 : Nat → FieldType := fun k => match k with
  | _ => .int
abbrev wsJxd24130 : List Cond := u_ws RJxd2413 TJxd2413 0
theorem nmJxd2413 : ∀ a, a < 0 → ∀ b, b < 0 → a ≠ b → (TJxd2413 a).2.1 ≠ (TJxd2413 b).2.1 := by decide +kernel
theorem tyJxd2413_ok : ∀ k, k < 0 → parseFieldDescriptor (TJxd2413 k).2.2.1 = some (tyJxd2413 k) := by decide +kernel
def RJ0 : String := "java/lang/String"
def TJ0 : u_T := fun k => match k with
  | 0 => ("java/lang/String", "value", "[B", true)
  | 1 => ("java/lang/String", "coder", "B", true)
  | 2 => ("java/lang/String", "hash", "I", false)
  | _ => ("java/lang/String", "hashIsZero", "Z", false)
def tyJ0 : Nat → FieldType := fun k => match k with
  | 0 => .array .byte
  | 1 => .byte
  | 2 => .int
  | _ => .boolean
abbrev wsJ00 : List Cond := u_ws RJ0 TJ0 4
theorem nmJ0 : ∀ a, a < 4 → ∀ b, b < 4 → a ≠ b → (TJ0 a).2.1 ≠ (TJ0 b).2.1 := by decide +kernel
theorem tyJ0_ok : ∀ k, k < 4 → parseFieldDescriptor (TJ0 k).2.2.1 = some (tyJ0 k) := by decide +kernel
abbrev cJ0_init_81219 : ByteArray := prog_22_method_53_code
def yJ0_init_81219 : MethodName := ⟨RJ0, "<init>", "(Ljava/lang/StringBuilder;)V"⟩
abbrev cJ0_length_8abf5 : ByteArray := prog_22_method_54_code
def yJ0_length_8abf5 : MethodName := ⟨RJ0, "length", "()I"⟩
abbrev cJ0_charAt_5068e : ByteArray := prog_22_method_56_code
def yJ0_charAt_5068e : MethodName := ⟨RJ0, "charAt", "(I)C"⟩
abbrev cJ0_getBytes_840e7 : ByteArray := prog_22_method_147_code
def yJ0_getBytes_840e7 : MethodName := ⟨RJ0, "getBytes", "([BIB)V"⟩
abbrev cJ0_init_db425 : ByteArray := prog_22_method_150_code
def yJ0_init_db425 : MethodName := ⟨RJ0, "<init>", "(Ljava/lang/AbstractStringBuilder;Ljava/lang/Void;)V"⟩
abbrev cJ0_coder_7d493 : ByteArray := prog_22_method_152_code
def yJ0_coder_7d493 : MethodName := ⟨RJ0, "coder", "()B"⟩
abbrev cJ0_isLatin1_aae02 : ByteArray := prog_22_method_154_code
def yJ0_isLatin1_aae02 : MethodName := ⟨RJ0, "isLatin1", "()Z"⟩
abbrev cJ0_checkIndex_df160 : ByteArray := prog_22_method_155_code
def yJ0_checkIndex_df160 : MethodName := ⟨RJ0, "checkIndex", "(II)V"⟩
abbrev cJ0_checkBoundsOffCount_cabcc : ByteArray := prog_22_method_157_code
def yJ0_checkBoundsOffCount_cabcc : MethodName := ⟨RJ0, "checkBoundsOffCount", "(III)I"⟩
abbrev cJ0_checkBoundsBeginEnd_23922 : ByteArray := prog_22_method_158_code
def yJ0_checkBoundsBeginEnd_23922 : MethodName := ⟨RJ0, "checkBoundsBeginEnd", "(III)V"⟩
def RJ4 : String := "java/lang/StringBuilder"
def TJ4 : u_T := fun k => match k with
  | 0 => ("java/lang/AbstractStringBuilder", "value", "[B", false)
  | 1 => ("java/lang/AbstractStringBuilder", "coder", "B", false)
  | 2 => ("java/lang/AbstractStringBuilder", "maybeLatin1", "Z", false)
  | _ => ("java/lang/AbstractStringBuilder", "count", "I", false)
def tyJ4 : Nat → FieldType := fun k => match k with
  | 0 => .array .byte
  | 1 => .byte
  | 2 => .boolean
  | _ => .int
abbrev wsJ40 : List Cond := u_ws RJ4 TJ4 4
theorem nmJ4 : ∀ a, a < 4 → ∀ b, b < 4 → a ≠ b → (TJ4 a).2.1 ≠ (TJ4 b).2.1 := by decide +kernel
theorem tyJ4_ok : ∀ k, k < 4 → parseFieldDescriptor (TJ4 k).2.2.1 = some (tyJ4 k) := by decide +kernel
abbrev cJ4_init_da8c8 : ByteArray := prog_23_method_1_code
def yJ4_init_da8c8 : MethodName := ⟨RJ4, "<init>", "()V"⟩
abbrev cJ4_init_a7421 : ByteArray := prog_23_method_3_code
def yJ4_init_a7421 : MethodName := ⟨RJ4, "<init>", "(Ljava/lang/String;)V"⟩
abbrev cJ4_append_15ec4 : ByteArray := prog_23_method_7_code
def yJ4_append_15ec4 : MethodName := ⟨RJ4, "append", "(Ljava/lang/String;)Ljava/lang/StringBuilder;"⟩
abbrev cJ4_append_cf468 : ByteArray := prog_23_method_14_code
def yJ4_append_cf468 : MethodName := ⟨RJ4, "append", "(C)Ljava/lang/StringBuilder;"⟩
abbrev cJ4_append_bf812 : ByteArray := prog_23_method_15_code
def yJ4_append_bf812 : MethodName := ⟨RJ4, "append", "(I)Ljava/lang/StringBuilder;"⟩
abbrev cJ4_toString_0e30d : ByteArray := prog_23_method_42_code
def yJ4_toString_0e30d : MethodName := ⟨RJ4, "toString", "()Ljava/lang/String;"⟩
abbrev cJ4_append_cf1ce : ByteArray := prog_23_method_80_code
def yJ4_append_cf1ce : MethodName := ⟨RJ4, "append", "(Ljava/lang/String;)Ljava/lang/AbstractStringBuilder;"⟩
abbrev cJ4_length_8abf5 : ByteArray := prog_23_method_93_code
def yJ4_length_8abf5 : MethodName := ⟨RJ4, "length", "()I"⟩
def RJ1 : String := "java/lang/StringLatin1"
def TJ1 : u_T := fun k => match k with
  | _ => ("", "", "", false)
def tyJ1 : Nat → FieldType := fun k => match k with
  | _ => .int
abbrev wsJ10 : List Cond := u_ws RJ1 TJ1 0
theorem nmJ1 : ∀ a, a < 0 → ∀ b, b < 0 → a ≠ b → (TJ1 a).2.1 ≠ (TJ1 b).2.1 := by decide +kernel
theorem tyJ1_ok : ∀ k, k < 0 → parseFieldDescriptor (TJ1 k).2.2.1 = some (tyJ1 k) := by decide +kernel
abbrev cJ1_charAt_3b067 : ByteArray := prog_24_method_2_code
def yJ1_charAt_3b067 : MethodName := ⟨RJ1, "charAt", "([BI)C"⟩
abbrev cJ1_canEncode_fc78d : ByteArray := prog_24_method_3_code
def yJ1_canEncode_fc78d : MethodName := ⟨RJ1, "canEncode", "(C)Z"⟩
abbrev cJ1_inflate_0e8fd : ByteArray := prog_24_method_50_code
def yJ1_inflate_0e8fd : MethodName := ⟨RJ1, "inflate", "([BI[BII)V"⟩
def RJ2 : String := "java/lang/StringUTF16"
def TJ2 : u_T := fun k => match k with
  | _ => ("", "", "", false)
def tyJ2 : Nat → FieldType := fun k => match k with
  | _ => .int
abbrev wsJ20 : List Cond := u_ws RJ2 TJ2 0
theorem nmJ2 : ∀ a, a < 0 → ∀ b, b < 0 → a ≠ b → (TJ2 a).2.1 ≠ (TJ2 b).2.1 := by decide +kernel
theorem tyJ2_ok : ∀ k, k < 0 → parseFieldDescriptor (TJ2 k).2.2.1 = some (tyJ2 k) := by decide +kernel
abbrev cJ2_newBytesFor_77867 : ByteArray := prog_25_method_2_code
def yJ2_newBytesFor_77867 : MethodName := ⟨RJ2, "newBytesFor", "(I)[B"⟩
abbrev cJ2_newBytesLength_0f7a4 : ByteArray := prog_25_method_3_code
def yJ2_newBytesLength_0f7a4 : MethodName := ⟨RJ2, "newBytesLength", "(I)I"⟩
abbrev cJ2_putChar_b72d1 : ByteArray := prog_25_method_4_code
def yJ2_putChar_b72d1 : MethodName := ⟨RJ2, "putChar", "([BII)V"⟩
abbrev cJ2_getChar_3b067 : ByteArray := prog_25_method_5_code
def yJ2_getChar_3b067 : MethodName := ⟨RJ2, "getChar", "([BI)C"⟩
abbrev cJ2_length_9d52b : ByteArray := prog_25_method_6_code
def yJ2_length_9d52b : MethodName := ⟨RJ2, "length", "([B)I"⟩
abbrev cJ2_coderFromArrayLen_85cad : ByteArray := prog_25_method_15_code
def yJ2_coderFromArrayLen_85cad : MethodName := ⟨RJ2, "coderFromArrayLen", "([BI)B"⟩
abbrev cJ2_compress_39247 : ByteArray := prog_25_method_17_code
def yJ2_compress_39247 : MethodName := ⟨RJ2, "compress", "([BII)[B"⟩
abbrev cJ2_compress_5af95 : ByteArray := prog_25_method_22_code
def yJ2_compress_5af95 : MethodName := ⟨RJ2, "compress", "([BI[BII)I"⟩
abbrev cJ2_putCharSB_b72d1 : ByteArray := prog_25_method_71_code
def yJ2_putCharSB_b72d1 : MethodName := ⟨RJ2, "putCharSB", "([BII)V"⟩
abbrev cJ2_getChars_46870 : ByteArray := prog_25_method_77_code
def yJ2_getChars_46870 : MethodName := ⟨RJ2, "getChars", "(III[B)I"⟩
abbrev cJ2_putCharsAt_cd4e5 : ByteArray := prog_25_method_81_code
def yJ2_putCharsAt_cd4e5 : MethodName := ⟨RJ2, "putCharsAt", "([BICCCC)I"⟩
abbrev cJ2_charAt_3b067 : ByteArray := prog_25_method_83_code
def yJ2_charAt_3b067 : MethodName := ⟨RJ2, "charAt", "([BI)C"⟩
abbrev cJ2_inflate_0e8fd : ByteArray := prog_25_method_86_code
def yJ2_inflate_0e8fd : MethodName := ⟨RJ2, "inflate", "([BI[BII)V"⟩
abbrev cJ2_getChars_ba4f3 : ByteArray := prog_25_method_89_code
def yJ2_getChars_ba4f3 : MethodName := ⟨RJ2, "getChars", "(II[B)I"⟩
abbrev cJ2_checkIndex_2214a : ByteArray := prog_25_method_91_code
def yJ2_checkIndex_2214a : MethodName := ⟨RJ2, "checkIndex", "(I[B)V"⟩
abbrev cJ2_checkBoundsBeginEnd_d044e : ByteArray := prog_25_method_93_code
def yJ2_checkBoundsBeginEnd_d044e : MethodName := ⟨RJ2, "checkBoundsBeginEnd", "(II[B)V"⟩
abbrev cJ2_checkBoundsOffCount_d044e : ByteArray := prog_25_method_94_code
def yJ2_checkBoundsOffCount_d044e : MethodName := ⟨RJ2, "checkBoundsOffCount", "(II[B)V"⟩
def RJ10 : String := "java/lang/System"
def TJ10 : u_T := fun k => match k with
  | _ => ("", "", "", false)
def tyJ10 : Nat → FieldType := fun k => match k with
  | _ => .int
abbrev wsJ100 : List Cond := u_ws RJ10 TJ10 0
theorem nmJ10 : ∀ a, a < 0 → ∀ b, b < 0 → a ≠ b → (TJ10 a).2.1 ≠ (TJ10 b).2.1 := by decide +kernel
theorem tyJ10_ok : ∀ k, k < 0 → parseFieldDescriptor (TJ10 k).2.2.1 = some (tyJ10 k) := by decide +kernel
def RJxfd54e : String := "java/lang/constant/Constable"
def TJxfd54e : u_T := fun k => match k with
  | _ => ("", "", "", false)
def tyJxfd54e : Nat → FieldType := fun k => match k with
  | _ => .int
abbrev wsJxfd54e0 : List Cond := u_ws RJxfd54e TJxfd54e 0
theorem nmJxfd54e : ∀ a, a < 0 → ∀ b, b < 0 → a ≠ b → (TJxfd54e a).2.1 ≠ (TJxfd54e b).2.1 := by decide +kernel
theorem tyJxfd54e_ok : ∀ k, k < 0 → parseFieldDescriptor (TJxfd54e k).2.2.1 = some (tyJxfd54e k) := by decide +kernel
def RJx3cf43 : String := "java/lang/constant/ConstantDesc"
def TJx3cf43 : u_T := fun k => match k with
  | _ => ("", "", "", false)
def tyJx3cf43 : Nat → FieldType := fun k => match k with
  | _ => .int
abbrev wsJx3cf430 : List Cond := u_ws RJx3cf43 TJx3cf43 0
theorem nmJx3cf43 : ∀ a, a < 0 → ∀ b, b < 0 → a ≠ b → (TJx3cf43 a).2.1 ≠ (TJx3cf43 b).2.1 := by decide +kernel
theorem tyJx3cf43_ok : ∀ k, k < 0 → parseFieldDescriptor (TJx3cf43 k).2.2.1 = some (tyJx3cf43 k) := by decide +kernel
def RJ7 : String := "java/util/Arrays"
def TJ7 : u_T := fun k => match k with
  | _ => ("", "", "", false)
def tyJ7 : Nat → FieldType := fun k => match k with
  | _ => .int
abbrev wsJ70 : List Cond := u_ws RJ7 TJ7 0
theorem nmJ7 : ∀ a, a < 0 → ∀ b, b < 0 → a ≠ b → (TJ7 a).2.1 ≠ (TJ7 b).2.1 := by decide +kernel
theorem tyJ7_ok : ∀ k, k < 0 → parseFieldDescriptor (TJ7 k).2.2.1 = some (tyJ7 k) := by decide +kernel
abbrev cJ7_copyOf_9075b : ByteArray := prog_30_method_121_code
def yJ7_copyOf_9075b : MethodName := ⟨RJ7, "copyOf", "([BI)[B"⟩
abbrev cJ7_checkLength_df160 : ByteArray := prog_30_method_131_code
def yJ7_checkLength_df160 : MethodName := ⟨RJ7, "checkLength", "(II)V"⟩
abbrev cJ7_copyOfRange_39247 : ByteArray := prog_30_method_132_code
def yJ7_copyOfRange_39247 : MethodName := ⟨RJ7, "copyOfRange", "([BII)[B"⟩
abbrev cJ7_copyOfRangeByte_39247 : ByteArray := prog_30_method_133_code
def yJ7_copyOfRangeByte_39247 : MethodName := ⟨RJ7, "copyOfRangeByte", "([BII)[B"⟩
def RJ8 : String := "jdk/internal/util/ArraysSupport"
def TJ8 : u_T := fun k => match k with
  | _ => ("", "", "", false)
def tyJ8 : Nat → FieldType := fun k => match k with
  | _ => .int
abbrev wsJ80 : List Cond := u_ws RJ8 TJ8 0
theorem nmJ8 : ∀ a, a < 0 → ∀ b, b < 0 → a ≠ b → (TJ8 a).2.1 ≠ (TJ8 b).2.1 := by decide +kernel
theorem tyJ8_ok : ∀ k, k < 0 → parseFieldDescriptor (TJ8 k).2.2.1 = some (tyJ8 k) := by decide +kernel
abbrev cJ8_newLength_cabcc : ByteArray := prog_32_method_27_code
def yJ8_newLength_cabcc : MethodName := ⟨RJ8, "newLength", "(III)I"⟩
abbrev cJ8_hugeLength_7cf53 : ByteArray := prog_32_method_28_code
def yJ8_hugeLength_7cf53 : MethodName := ⟨RJ8, "hugeLength", "(II)I"⟩
def RJ3 : String := "jdk/internal/util/Preconditions"
def TJ3 : u_T := fun k => match k with
  | _ => ("", "", "", false)
def tyJ3 : Nat → FieldType := fun k => match k with
  | _ => .int
abbrev wsJ30 : List Cond := u_ws RJ3 TJ3 0
theorem nmJ3 : ∀ a, a < 0 → ∀ b, b < 0 → a ≠ b → (TJ3 a).2.1 ≠ (TJ3 b).2.1 := by decide +kernel
theorem tyJ3_ok : ∀ k, k < 0 → parseFieldDescriptor (TJ3 k).2.2.1 = some (tyJ3 k) := by decide +kernel
abbrev cJ3_checkIndex_8e157 : ByteArray := prog_33_method_11_code
def yJ3_checkIndex_8e157 : MethodName := ⟨RJ3, "checkIndex", "(IILjava/util/function/BiFunction;)I"⟩
abbrev cJ3_checkFromToIndex_8c36e : ByteArray := prog_33_method_12_code
def yJ3_checkFromToIndex_8c36e : MethodName := ⟨RJ3, "checkFromToIndex", "(IIILjava/util/function/BiFunction;)I"⟩
abbrev cJ3_checkFromIndexSize_8c36e : ByteArray := prog_33_method_13_code
def yJ3_checkFromIndexSize_8c36e : MethodName := ⟨RJ3, "checkFromIndexSize", "(IIILjava/util/function/BiFunction;)I"⟩
def RL : String := "ParityGameLaw"
abbrev cL_next : ByteArray := method_2_code
def yL_next : MethodName := ⟨RL, "next", "([I)I"⟩
abbrev cL_type : ByteArray := method_3_code
def yL_type : MethodName := ⟨RL, "type", "(LParityGame;Ljava/lang/String;)I"⟩
abbrev cL_load : ByteArray := method_4_code
def yL_load : MethodName := ⟨RL, "load", "(LParityGame;Ljava/lang/String;)I"⟩
abbrev cL_undone : ByteArray := method_5_code
def yL_undone : MethodName := ⟨RL, "undone", "(LParityGame;)I"⟩
abbrev cL_gone : ByteArray := method_6_code
def yL_gone : MethodName := ⟨RL, "gone", "(LParityGame;I)I"⟩
abbrev cL_led : ByteArray := method_7_code
def yL_led : MethodName := ⟨RL, "led", "(LParityGame;II)I"⟩
abbrev cL_game : ByteArray := method_8_code
def yL_game : MethodName := ⟨RL, "game", "(II[I)Ljava/lang/String;"⟩
abbrev cL_refusesSet : ByteArray := method_9_code
def yL_refusesSet : MethodName := ⟨RL, "refusesSet", "(LParityGame;II)Z"⟩
abbrev cL_refusesCall : ByteArray := method_10_code
def yL_refusesCall : MethodName := ⟨RL, "refusesCall", "(LParityGame;II)Z"⟩
abbrev cL_sum : ByteArray := method_11_code
def yL_sum : MethodName := ⟨RL, "sum", "(LParityGame;)J"⟩
abbrev cL_wins : ByteArray := method_12_code
def yL_wins : MethodName := ⟨RL, "wins", "(LParityGame;)Z"⟩
abbrev cL_sets : ByteArray := method_13_code
def yL_sets : MethodName := ⟨RL, "sets", "(LParityGame;I)Z"⟩
abbrev cL_allMoves : ByteArray := method_14_code
def yL_allMoves : MethodName := ⟨RL, "allMoves", "(LParityGame;II)Z"⟩
abbrev cL_dead : ByteArray := method_15_code
def yL_dead : MethodName := ⟨RL, "dead", "(LParityGame;I)I"⟩
abbrev cL_act : ByteArray := method_16_code
def yL_act : MethodName := ⟨RL, "act", "(LParityGame;[I)Z"⟩
abbrev cL_law : ByteArray := code
def yL_law : MethodName := ⟨RL, "law", "([I)Z"⟩
def wsX0_init : List Cond := .code yX0_init cX0_init 1 none :: ([.methodLink RX0 3 objectInit, .instanceMethod objectInit, .code objectInit ⟨#[0xb1]⟩ 1 none, .arrayClass .int, .fieldLink RX0 9 "ParityGame$Board" "owned" "[I", .fieldLink RX0 15 "ParityGame$Board" "calling" "[I", .fieldLink RX0 18 "ParityGame$Board" "next" "[I"] ++ wsX00)
def wsX0_join : List Cond := .code yX0_join cX0_join 3 none :: ([.fieldLink RX0 18 "ParityGame$Board" "next" "[I"] ++ wsX00)
def wsX0_take : List Cond := .code yX0_take cX0_take 3 none :: ([.fieldLink RX0 21 "ParityGame$Game" "places" "I", .fieldLink RX0 27 "ParityGame$Board" "places" "I", .fieldLink RX0 28 "ParityGame$Board" "all" "I", .fieldLink RX0 9 "ParityGame$Board" "owned" "[I", .fieldLink RX0 31 "ParityGame$Game" "odd" "I", .fieldLink RX0 15 "ParityGame$Board" "calling" "[I", .fieldLink RX0 34 "ParityGame$Game" "calls" "[I", .fieldLink RX0 18 "ParityGame$Board" "next" "[I", .fieldLink RX0 37 "ParityGame$Game" "moves" "I", .fieldLink RX0 40 "ParityGame$Game" "from" "[I", .fieldLink RX0 43 "ParityGame$Game" "to" "[I", .methodLink RX0 46 yX0_join, .instanceMethod yX0_join, .selects RX0 yX0_join yX0_join, .initialized RX0, .code yX0_join cX0_join 3 none] ++ wsX10 ++ wsX00)
def wsX0_cut : List Cond := .code yX0_cut cX0_cut 3 none :: ([.fieldLink RX0 18 "ParityGame$Board" "next" "[I"] ++ wsX00)
def wsX0_changeOwner : List Cond := .code yX0_changeOwner cX0_changeOwner 2 none :: ([.fieldLink RX0 9 "ParityGame$Board" "owned" "[I"] ++ wsX00)
def wsX0_changeCall : List Cond := .code yX0_changeCall cX0_changeCall 4 none :: ([.fieldLink RX0 15 "ParityGame$Board" "calling" "[I"] ++ wsX00)
def wsX0_differentCalls : List Cond := .code yX0_differentCalls cX0_differentCalls 3 (some .int) :: ([.fieldLink RX0 15 "ParityGame$Board" "calling" "[I"] ++ wsX00)
def wsX0_deadEnds : List Cond := .code yX0_deadEnds cX0_deadEnds 3 (some .int) :: ([.fieldLink RX0 27 "ParityGame$Board" "places" "I", .fieldLink RX0 18 "ParityGame$Board" "next" "[I"] ++ wsX00)
def wsX0_before : List Cond := .code yX0_before cX0_before 10 (some .int) :: ([.fieldLink RX0 27 "ParityGame$Board" "places" "I", .fieldLink RX0 18 "ParityGame$Board" "next" "[I", .fieldLink RX0 9 "ParityGame$Board" "owned" "[I"] ++ wsX00)
def wsX0_attract : List Cond := .code yX0_attract cX0_attract 7 (some .int) :: ([.methodLink RX0 50 yX0_before, .instanceMethod yX0_before, .selects RX0 yX0_before yX0_before, .initialized RX0, .code yX0_before cX0_before 10 (some .int), .fieldLink RX0 27 "ParityGame$Board" "places" "I", .fieldLink RX0 18 "ParityGame$Board" "next" "[I", .fieldLink RX0 9 "ParityGame$Board" "owned" "[I"] ++ wsX00)
def wsX5_has : List Cond := .code yX5_has cX5_has 2 (some .boolean) :: ([])
def wsX0_distance : List Cond := .code yX0_distance cX0_distance 6 (some .int) :: ([.fieldLink RX0 28 "ParityGame$Board" "all" "I", .static yX5_has, .initialized RX5, .code yX5_has cX5_has 2 (some .boolean), .methodLink RX0 50 yX0_before, .instanceMethod yX0_before, .selects RX0 yX0_before yX0_before, .initialized RX0, .code yX0_before cX0_before 10 (some .int), .fieldLink RX0 27 "ParityGame$Board" "places" "I", .fieldLink RX0 18 "ParityGame$Board" "next" "[I", .fieldLink RX0 9 "ParityGame$Board" "owned" "[I"] ++ wsX00)
def wsX0_stayingIn : List Cond := .code yX0_stayingIn cX0_stayingIn 7 (some .int) :: ([.fieldLink RX0 28 "ParityGame$Board" "all" "I", .methodLink RX0 58 yX0_deadEnds, .instanceMethod yX0_deadEnds, .selects RX0 yX0_deadEnds yX0_deadEnds, .initialized RX0, .code yX0_deadEnds cX0_deadEnds 3 (some .int), .fieldLink RX0 27 "ParityGame$Board" "places" "I", .fieldLink RX0 18 "ParityGame$Board" "next" "[I", .methodLink RX0 50 yX0_before, .instanceMethod yX0_before, .selects RX0 yX0_before yX0_before, .code yX0_before cX0_before 10 (some .int), .fieldLink RX0 9 "ParityGame$Board" "owned" "[I"] ++ wsX00)
def wsX0_comingBackTo : List Cond := .code yX0_comingBackTo cX0_comingBackTo 7 (some .int) :: ([.fieldLink RX0 28 "ParityGame$Board" "all" "I", .methodLink RX0 50 yX0_before, .instanceMethod yX0_before, .selects RX0 yX0_before yX0_before, .initialized RX0, .code yX0_before cX0_before 10 (some .int), .fieldLink RX0 27 "ParityGame$Board" "places" "I", .fieldLink RX0 18 "ParityGame$Board" "next" "[I", .fieldLink RX0 9 "ParityGame$Board" "owned" "[I", .methodLink RX0 62 yX0_attract, .instanceMethod yX0_attract, .selects RX0 yX0_attract yX0_attract, .code yX0_attract cX0_attract 7 (some .int)] ++ wsX00)
def wsX0_isClosedFor : List Cond := .code yX0_isClosedFor cX0_isClosedFor 4 (some .boolean) :: ([.fieldLink RX0 28 "ParityGame$Board" "all" "I", .fieldLink RX0 9 "ParityGame$Board" "owned" "[I", .methodLink RX0 50 yX0_before, .instanceMethod yX0_before, .selects RX0 yX0_before yX0_before, .initialized RX0, .code yX0_before cX0_before 10 (some .int), .fieldLink RX0 27 "ParityGame$Board" "places" "I", .fieldLink RX0 18 "ParityGame$Board" "next" "[I", .methodLink RX0 58 yX0_deadEnds, .instanceMethod yX0_deadEnds, .selects RX0 yX0_deadEnds yX0_deadEnds, .code yX0_deadEnds cX0_deadEnds 3 (some .int)] ++ wsX00)
def wsX0_greatestCall : List Cond := .code yX0_greatestCall cX0_greatestCall 4 (some .int) :: ([.fieldLink RX0 15 "ParityGame$Board" "calling" "[I"] ++ wsX00)
def wsX0_wonEndless : List Cond := .code yX0_wonEndless cX0_wonEndless 10 (some .int) :: ([.fieldLink RX0 15 "ParityGame$Board" "calling" "[I", .methodLink RX0 70 yX0_greatestCall, .instanceMethod yX0_greatestCall, .selects RX0 yX0_greatestCall yX0_greatestCall, .initialized RX0, .code yX0_greatestCall cX0_greatestCall 4 (some .int), .methodLink RX0 62 yX0_attract, .instanceMethod yX0_attract, .selects RX0 yX0_attract yX0_attract, .code yX0_attract cX0_attract 7 (some .int), .methodLink RX0 50 yX0_before, .instanceMethod yX0_before, .selects RX0 yX0_before yX0_before, .code yX0_before cX0_before 10 (some .int), .fieldLink RX0 27 "ParityGame$Board" "places" "I", .fieldLink RX0 18 "ParityGame$Board" "next" "[I", .fieldLink RX0 9 "ParityGame$Board" "owned" "[I", .methodLink RX0 66 yX0_wonEndless, .static yX0_wonEndless] ++ wsX00)
def wsX0_wonBy_r1 : List Cond := [Cond.fieldLink RX0 9 "ParityGame$Board" "owned" "[I", Cond.fieldLink RX0 28 "ParityGame$Board" "all" "I", Cond.methodLink RX0 58 yX0_deadEnds, Cond.instanceMethod yX0_deadEnds, Cond.selects RX0 yX0_deadEnds yX0_deadEnds, Cond.initialized RX0, Cond.code yX0_deadEnds cX0_deadEnds 3 (some .int), Cond.fieldLink RX0 27 "ParityGame$Board" "places" "I", Cond.fieldLink RX0 18 "ParityGame$Board" "next" "[I", Cond.methodLink RX0 62 yX0_attract, Cond.instanceMethod yX0_attract, Cond.selects RX0 yX0_attract yX0_attract, Cond.code yX0_attract cX0_attract 7 (some .int), Cond.methodLink RX0 50 yX0_before, Cond.instanceMethod yX0_before, Cond.selects RX0 yX0_before yX0_before, Cond.code yX0_before cX0_before 10 (some .int), Cond.methodLink RX0 66 yX0_wonEndless, Cond.static yX0_wonEndless, Cond.code yX0_wonEndless cX0_wonEndless 10 (some .int), Cond.fieldLink RX0 15 "ParityGame$Board" "calling" "[I", Cond.methodLink RX0 70 yX0_greatestCall, Cond.instanceMethod yX0_greatestCall, Cond.selects RX0 yX0_greatestCall yX0_greatestCall]
def wsX0_wonBy_r2 : List Cond := [Cond.code yX0_greatestCall cX0_greatestCall 4 (some .int)]
def wsX0_wonBy : List Cond := .code yX0_wonBy cX0_wonBy 5 (some .int) :: ((wsX0_wonBy_r1 ++ wsX0_wonBy_r2) ++ wsX00)
def wsX1_init : List Cond := .code yX1_init cX1_init 1 none :: ([.methodLink RX1 3 objectInit, .instanceMethod objectInit, .code objectInit ⟨#[0xb1]⟩ 1 none, .arrayClass .int, .fieldLink RX1 9 "ParityGame$Game" "calls" "[I", .fieldLink RX1 15 "ParityGame$Game" "from" "[I", .fieldLink RX1 18 "ParityGame$Game" "to" "[I", .fieldLink RX1 21 "ParityGame$Game" "heard" "[I"] ++ wsX10)
def wsX1_clear : List Cond := .code yX1_clear cX1_clear 1 none :: ([.fieldLink RX1 24 "ParityGame$Game" "places" "I", .fieldLink RX1 28 "ParityGame$Game" "odd" "I", .fieldLink RX1 31 "ParityGame$Game" "moves" "I", .fieldLink RX1 34 "ParityGame$Game" "token" "I", .fieldLink RX1 37 "ParityGame$Game" "made" "I"] ++ wsX10)
def wsX1_copy : List Cond := .code yX1_copy cX1_copy 2 none :: ([.fieldLink RX1 24 "ParityGame$Game" "places" "I", .fieldLink RX1 28 "ParityGame$Game" "odd" "I", .fieldLink RX1 9 "ParityGame$Game" "calls" "[I", .methodLink RX1 40 arraycopyName, .native arraycopyName, .static arraycopyName, .initialized "java/lang/System", .fieldLink RX1 31 "ParityGame$Game" "moves" "I", .fieldLink RX1 15 "ParityGame$Game" "from" "[I", .fieldLink RX1 18 "ParityGame$Game" "to" "[I", .fieldLink RX1 34 "ParityGame$Game" "token" "I", .fieldLink RX1 37 "ParityGame$Game" "made" "I", .fieldLink RX1 21 "ParityGame$Game" "heard" "[I"] ++ wsX10)
def wsX1_hasPlace : List Cond := .code yX1_hasPlace cX1_hasPlace 2 (some .boolean) :: ([.fieldLink RX1 24 "ParityGame$Game" "places" "I"] ++ wsX10)
def wsX1_ownerOf : List Cond := .code yX1_ownerOf cX1_ownerOf 2 (some .int) :: ([.fieldLink RX1 28 "ParityGame$Game" "odd" "I"] ++ wsX10)
def wsX1_greatestCall : List Cond := .code yX1_greatestCall cX1_greatestCall 3 (some .int) :: ([.fieldLink RX1 24 "ParityGame$Game" "places" "I", .fieldLink RX1 9 "ParityGame$Game" "calls" "[I", .methodLink RX1 46 Lib.Math.max.name, .static Lib.Math.max.name, .initialized "java/lang/Math", .code Lib.Math.max.name Lib.Math.max.code 2 (some .int)] ++ wsX10)
def wsX1_movesFrom : List Cond := .code yX1_movesFrom cX1_movesFrom 4 (some .int) :: ([.fieldLink RX1 31 "ParityGame$Game" "moves" "I", .fieldLink RX1 15 "ParityGame$Game" "from" "[I"] ++ wsX10)
def wsX1_movesTo : List Cond := .code yX1_movesTo cX1_movesTo 4 (some .int) :: ([.fieldLink RX1 31 "ParityGame$Game" "moves" "I", .fieldLink RX1 18 "ParityGame$Game" "to" "[I"] ++ wsX10)
def wsX1_findMove : List Cond := .code yX1_findMove cX1_findMove 4 (some .int) :: ([.fieldLink RX1 31 "ParityGame$Game" "moves" "I", .fieldLink RX1 15 "ParityGame$Game" "from" "[I", .fieldLink RX1 18 "ParityGame$Game" "to" "[I"] ++ wsX10)
def wsX1_firstMove : List Cond := .code yX1_firstMove cX1_firstMove 3 (some .int) :: ([.fieldLink RX1 31 "ParityGame$Game" "moves" "I", .fieldLink RX1 15 "ParityGame$Game" "from" "[I"] ++ wsX10)
def wsX1_appendPlace : List Cond := .code yX1_appendPlace cX1_appendPlace 3 none :: ([.fieldLink RX1 24 "ParityGame$Game" "places" "I", .fieldLink RX1 9 "ParityGame$Game" "calls" "[I", .fieldLink RX1 28 "ParityGame$Game" "odd" "I"] ++ wsX10)
def wsX1_appendMove : List Cond := .code yX1_appendMove cX1_appendMove 3 none :: ([.fieldLink RX1 31 "ParityGame$Game" "moves" "I", .fieldLink RX1 15 "ParityGame$Game" "from" "[I", .fieldLink RX1 18 "ParityGame$Game" "to" "[I"] ++ wsX10)
def wsX1_dropMove : List Cond := .code yX1_dropMove cX1_dropMove 3 none :: ([.fieldLink RX1 31 "ParityGame$Game" "moves" "I", .fieldLink RX1 15 "ParityGame$Game" "from" "[I", .fieldLink RX1 18 "ParityGame$Game" "to" "[I"] ++ wsX10)
def wsX1_bringToFront : List Cond := .code yX1_bringToFront cX1_bringToFront 5 none :: ([.fieldLink RX1 15 "ParityGame$Game" "from" "[I", .fieldLink RX1 18 "ParityGame$Game" "to" "[I"] ++ wsX10)
def wsX1_layAt : List Cond := .code yX1_layAt cX1_layAt 3 none :: ([.fieldLink RX1 34 "ParityGame$Game" "token" "I", .fieldLink RX1 37 "ParityGame$Game" "made" "I", .fieldLink RX1 21 "ParityGame$Game" "heard" "[I", .fieldLink RX1 9 "ParityGame$Game" "calls" "[I"] ++ wsX10)
def wsX1_step : List Cond := .code yX1_step cX1_step 2 none :: ([.fieldLink RX1 18 "ParityGame$Game" "to" "[I", .fieldLink RX1 34 "ParityGame$Game" "token" "I", .fieldLink RX1 37 "ParityGame$Game" "made" "I", .fieldLink RX1 21 "ParityGame$Game" "heard" "[I", .fieldLink RX1 9 "ParityGame$Game" "calls" "[I"] ++ wsX10)
def wsX2_init : List Cond := .code yX2_init cX2_init 2 none :: ([.methodLink RX2 3 objectInit, .instanceMethod objectInit, .code objectInit ⟨#[0xb1]⟩ 1 none, .classLink RX2 9 RX1, .fieldLink RX2 11 "ParityGame$History" "ring" "[LParityGame$Game;", .instantiable RX1 9, .initialized RX1, .instanceMethod yX1_init, .code yX1_init cX1_init 1 none, .methodLink RX1 3 objectInit, .arrayClass .int, .fieldLink RX1 9 "ParityGame$Game" "calls" "[I", .fieldLink RX1 15 "ParityGame$Game" "from" "[I", .fieldLink RX1 18 "ParityGame$Game" "to" "[I", .fieldLink RX1 21 "ParityGame$Game" "heard" "[I"] ++ wsX20 ++ wsX10)
def wsX2_clear : List Cond := .code yX2_clear cX2_clear 1 none :: ([.fieldLink RX2 18 "ParityGame$History" "first" "I", .fieldLink RX2 22 "ParityGame$History" "kept" "I"] ++ wsX20)
def wsX2_keep : List Cond := .code yX2_keep cX2_keep 2 none :: ([.fieldLink RX2 11 "ParityGame$History" "ring" "[LParityGame$Game;", .fieldLink RX2 18 "ParityGame$History" "first" "I", .fieldLink RX2 22 "ParityGame$History" "kept" "I", .methodLink RX2 25 yX1_copy, .instanceMethod yX1_copy, .selects RX1 yX1_copy yX1_copy, .initialized RX1, .code yX1_copy cX1_copy 2 none, .fieldLink RX1 24 "ParityGame$Game" "places" "I", .fieldLink RX1 28 "ParityGame$Game" "odd" "I", .fieldLink RX1 9 "ParityGame$Game" "calls" "[I", .methodLink RX1 40 arraycopyName, .native arraycopyName, .static arraycopyName, .initialized "java/lang/System", .fieldLink RX1 31 "ParityGame$Game" "moves" "I", .fieldLink RX1 15 "ParityGame$Game" "from" "[I", .fieldLink RX1 18 "ParityGame$Game" "to" "[I", .fieldLink RX1 34 "ParityGame$Game" "token" "I", .fieldLink RX1 37 "ParityGame$Game" "made" "I", .fieldLink RX1 21 "ParityGame$Game" "heard" "[I"] ++ wsX20 ++ wsX10)
def wsX2_takeLatest : List Cond := .code yX2_takeLatest cX2_takeLatest 2 none :: ([.fieldLink RX2 22 "ParityGame$History" "kept" "I", .fieldLink RX2 11 "ParityGame$History" "ring" "[LParityGame$Game;", .fieldLink RX2 18 "ParityGame$History" "first" "I", .methodLink RX2 25 yX1_copy, .instanceMethod yX1_copy, .selects RX1 yX1_copy yX1_copy, .initialized RX1, .code yX1_copy cX1_copy 2 none, .fieldLink RX1 24 "ParityGame$Game" "places" "I", .fieldLink RX1 28 "ParityGame$Game" "odd" "I", .fieldLink RX1 9 "ParityGame$Game" "calls" "[I", .methodLink RX1 40 arraycopyName, .native arraycopyName, .static arraycopyName, .initialized "java/lang/System", .fieldLink RX1 31 "ParityGame$Game" "moves" "I", .fieldLink RX1 15 "ParityGame$Game" "from" "[I", .fieldLink RX1 18 "ParityGame$Game" "to" "[I", .fieldLink RX1 34 "ParityGame$Game" "token" "I", .fieldLink RX1 37 "ParityGame$Game" "made" "I", .fieldLink RX1 21 "ParityGame$Game" "heard" "[I"] ++ wsX20 ++ wsX10)
def wsX3_init : List Cond := .code yX3_init cX3_init 2 none :: ([.methodLink RX3 3 objectInit, .instanceMethod objectInit, .code objectInit ⟨#[0xb1]⟩ 1 none, .arrayClass .int, .fieldLink RX3 9 "ParityGame$Plan" "chosen" "[I", .fieldLink RX3 15 "ParityGame$Plan" "board" "LParityGame$Board;"] ++ wsX30)
def wsX3_forget : List Cond := .code yX3_forget cX3_forget 1 none :: ([.fieldLink RX3 19 "ParityGame$Plan" "zeroKnown" "Z", .fieldLink RX3 23 "ParityGame$Plan" "chosenKnown" "Z"] ++ wsX30)
def wsX3_wonBy_r1 : List Cond := [Cond.fieldLink RX3 19 "ParityGame$Plan" "zeroKnown" "Z", Cond.fieldLink RX3 15 "ParityGame$Plan" "board" "LParityGame$Board;", Cond.fieldLink RX3 36 "ParityGame$Plan" "zero" "I", Cond.fieldLink RX3 40 "ParityGame$Game" "places" "I", Cond.methodLink RX3 26 yX0_take, Cond.instanceMethod yX0_take, Cond.selects RX0 yX0_take yX0_take, Cond.initialized RX0, Cond.code yX0_take cX0_take 3 none, Cond.fieldLink RX0 21 "ParityGame$Game" "places" "I", Cond.fieldLink RX0 27 "ParityGame$Board" "places" "I", Cond.fieldLink RX0 28 "ParityGame$Board" "all" "I", Cond.fieldLink RX0 9 "ParityGame$Board" "owned" "[I", Cond.fieldLink RX0 31 "ParityGame$Game" "odd" "I", Cond.fieldLink RX0 15 "ParityGame$Board" "calling" "[I", Cond.fieldLink RX0 34 "ParityGame$Game" "calls" "[I", Cond.fieldLink RX0 18 "ParityGame$Board" "next" "[I", Cond.fieldLink RX0 37 "ParityGame$Game" "moves" "I", Cond.fieldLink RX0 40 "ParityGame$Game" "from" "[I", Cond.fieldLink RX0 43 "ParityGame$Game" "to" "[I", Cond.methodLink RX0 46 yX0_join, Cond.instanceMethod yX0_join, Cond.selects RX0 yX0_join yX0_join, Cond.code yX0_join cX0_join 3 none]
def wsX3_wonBy_r2 : List Cond := [Cond.methodLink RX3 32 yX0_wonBy, Cond.instanceMethod yX0_wonBy, Cond.selects RX0 yX0_wonBy yX0_wonBy, Cond.code yX0_wonBy cX0_wonBy 5 (some .int), Cond.methodLink RX0 58 yX0_deadEnds, Cond.instanceMethod yX0_deadEnds, Cond.selects RX0 yX0_deadEnds yX0_deadEnds, Cond.code yX0_deadEnds cX0_deadEnds 3 (some .int), Cond.methodLink RX0 62 yX0_attract, Cond.instanceMethod yX0_attract, Cond.selects RX0 yX0_attract yX0_attract, Cond.code yX0_attract cX0_attract 7 (some .int), Cond.methodLink RX0 50 yX0_before, Cond.instanceMethod yX0_before, Cond.selects RX0 yX0_before yX0_before, Cond.code yX0_before cX0_before 10 (some .int), Cond.methodLink RX0 66 yX0_wonEndless, Cond.static yX0_wonEndless, Cond.code yX0_wonEndless cX0_wonEndless 10 (some .int), Cond.methodLink RX0 70 yX0_greatestCall, Cond.instanceMethod yX0_greatestCall, Cond.selects RX0 yX0_greatestCall yX0_greatestCall, Cond.code yX0_greatestCall cX0_greatestCall 4 (some .int)]
def wsX3_wonBy : List Cond := .code yX3_wonBy cX3_wonBy 3 (some .int) :: ((wsX3_wonBy_r1 ++ wsX3_wonBy_r2) ++ wsX30 ++ wsX10 ++ wsX00)
def wsX3_winningMove_r1 : List Cond := [Cond.fieldLink RX3 62 "ParityGame$Game" "moves" "I", Cond.fieldLink RX3 65 "ParityGame$Game" "from" "[I", Cond.fieldLink RX3 68 "ParityGame$Game" "to" "[I", Cond.fieldLink RX3 15 "ParityGame$Plan" "board" "LParityGame$Board;", Cond.fieldLink RX3 71 "ParityGame$Board" "next" "[I", Cond.methodLink RX3 48 yX1_ownerOf, Cond.instanceMethod yX1_ownerOf, Cond.selects RX1 yX1_ownerOf yX1_ownerOf, Cond.initialized RX1, Cond.code yX1_ownerOf cX1_ownerOf 2 (some .int), Cond.fieldLink RX1 28 "ParityGame$Game" "odd" "I", Cond.static yX5_has, Cond.initialized RX5, Cond.code yX5_has cX5_has 2 (some .boolean), Cond.methodLink RX3 32 yX0_wonBy, Cond.instanceMethod yX0_wonBy, Cond.selects RX0 yX0_wonBy yX0_wonBy, Cond.initialized RX0, Cond.code yX0_wonBy cX0_wonBy 5 (some .int), Cond.fieldLink RX0 9 "ParityGame$Board" "owned" "[I", Cond.fieldLink RX0 28 "ParityGame$Board" "all" "I", Cond.methodLink RX0 58 yX0_deadEnds, Cond.instanceMethod yX0_deadEnds, Cond.selects RX0 yX0_deadEnds yX0_deadEnds]
def wsX3_winningMove_r2 : List Cond := [Cond.code yX0_deadEnds cX0_deadEnds 3 (some .int), Cond.fieldLink RX0 27 "ParityGame$Board" "places" "I", Cond.fieldLink RX0 18 "ParityGame$Board" "next" "[I", Cond.methodLink RX0 62 yX0_attract, Cond.instanceMethod yX0_attract, Cond.selects RX0 yX0_attract yX0_attract, Cond.code yX0_attract cX0_attract 7 (some .int), Cond.methodLink RX0 50 yX0_before, Cond.instanceMethod yX0_before, Cond.selects RX0 yX0_before yX0_before, Cond.code yX0_before cX0_before 10 (some .int), Cond.methodLink RX0 66 yX0_wonEndless, Cond.static yX0_wonEndless, Cond.code yX0_wonEndless cX0_wonEndless 10 (some .int), Cond.fieldLink RX0 15 "ParityGame$Board" "calling" "[I", Cond.methodLink RX0 70 yX0_greatestCall, Cond.instanceMethod yX0_greatestCall, Cond.selects RX0 yX0_greatestCall yX0_greatestCall, Cond.code yX0_greatestCall cX0_greatestCall 4 (some .int)]
def wsX3_winningMove : List Cond := .code yX3_winningMove cX3_winningMove 6 (some .int) :: ((wsX3_winningMove_r1 ++ wsX3_winningMove_r2) ++ wsX10 ++ wsX30 ++ wsX00)
def wsX3_choose_r1 : List Cond := [Cond.fieldLink RX3 23 "ParityGame$Plan" "chosenKnown" "Z", Cond.fieldLink RX3 15 "ParityGame$Plan" "board" "LParityGame$Board;", Cond.fieldLink RX3 40 "ParityGame$Game" "places" "I", Cond.fieldLink RX3 9 "ParityGame$Plan" "chosen" "[I", Cond.methodLink RX3 45 yX3_wonBy, Cond.instanceMethod yX3_wonBy, Cond.selects RX3 yX3_wonBy yX3_wonBy, Cond.initialized RX3, Cond.code yX3_wonBy cX3_wonBy 3 (some .int), Cond.fieldLink RX3 19 "ParityGame$Plan" "zeroKnown" "Z", Cond.fieldLink RX3 36 "ParityGame$Plan" "zero" "I", Cond.methodLink RX3 26 yX0_take, Cond.instanceMethod yX0_take, Cond.selects RX0 yX0_take yX0_take, Cond.initialized RX0, Cond.code yX0_take cX0_take 3 none, Cond.fieldLink RX0 21 "ParityGame$Game" "places" "I", Cond.fieldLink RX0 27 "ParityGame$Board" "places" "I", Cond.fieldLink RX0 28 "ParityGame$Board" "all" "I", Cond.fieldLink RX0 9 "ParityGame$Board" "owned" "[I", Cond.fieldLink RX0 31 "ParityGame$Game" "odd" "I", Cond.fieldLink RX0 15 "ParityGame$Board" "calling" "[I", Cond.fieldLink RX0 34 "ParityGame$Game" "calls" "[I", Cond.fieldLink RX0 18 "ParityGame$Board" "next" "[I"]
def wsX3_choose_r2 : List Cond := [Cond.fieldLink RX0 37 "ParityGame$Game" "moves" "I", Cond.fieldLink RX0 40 "ParityGame$Game" "from" "[I", Cond.fieldLink RX0 43 "ParityGame$Game" "to" "[I", Cond.methodLink RX0 46 yX0_join, Cond.instanceMethod yX0_join, Cond.selects RX0 yX0_join yX0_join, Cond.code yX0_join cX0_join 3 none, Cond.methodLink RX3 32 yX0_wonBy, Cond.instanceMethod yX0_wonBy, Cond.selects RX0 yX0_wonBy yX0_wonBy, Cond.code yX0_wonBy cX0_wonBy 5 (some .int), Cond.methodLink RX0 58 yX0_deadEnds, Cond.instanceMethod yX0_deadEnds, Cond.selects RX0 yX0_deadEnds yX0_deadEnds, Cond.code yX0_deadEnds cX0_deadEnds 3 (some .int), Cond.methodLink RX0 62 yX0_attract, Cond.instanceMethod yX0_attract, Cond.selects RX0 yX0_attract yX0_attract, Cond.code yX0_attract cX0_attract 7 (some .int), Cond.methodLink RX0 50 yX0_before, Cond.instanceMethod yX0_before, Cond.selects RX0 yX0_before yX0_before, Cond.code yX0_before cX0_before 10 (some .int), Cond.methodLink RX0 66 yX0_wonEndless]
def wsX3_choose_r3 : List Cond := [Cond.static yX0_wonEndless, Cond.code yX0_wonEndless cX0_wonEndless 10 (some .int), Cond.methodLink RX0 70 yX0_greatestCall, Cond.instanceMethod yX0_greatestCall, Cond.selects RX0 yX0_greatestCall yX0_greatestCall, Cond.code yX0_greatestCall cX0_greatestCall 4 (some .int), Cond.methodLink RX3 48 yX1_ownerOf, Cond.instanceMethod yX1_ownerOf, Cond.selects RX1 yX1_ownerOf yX1_ownerOf, Cond.initialized RX1, Cond.code yX1_ownerOf cX1_ownerOf 2 (some .int), Cond.fieldLink RX1 28 "ParityGame$Game" "odd" "I", Cond.static yX5_has, Cond.initialized RX5, Cond.code yX5_has cX5_has 2 (some .boolean), Cond.methodLink RX3 55 yX3_winningMove, Cond.instanceMethod yX3_winningMove, Cond.selects RX3 yX3_winningMove yX3_winningMove, Cond.code yX3_winningMove cX3_winningMove 6 (some .int), Cond.fieldLink RX3 62 "ParityGame$Game" "moves" "I", Cond.fieldLink RX3 65 "ParityGame$Game" "from" "[I", Cond.fieldLink RX3 68 "ParityGame$Game" "to" "[I", Cond.fieldLink RX3 71 "ParityGame$Board" "next" "[I", Cond.methodLink RX3 59 yX1_firstMove]
def wsX3_choose_r4 : List Cond := [Cond.instanceMethod yX1_firstMove, Cond.selects RX1 yX1_firstMove yX1_firstMove, Cond.code yX1_firstMove cX1_firstMove 3 (some .int), Cond.fieldLink RX1 31 "ParityGame$Game" "moves" "I", Cond.fieldLink RX1 15 "ParityGame$Game" "from" "[I"]
def wsX3_choose : List Cond := .code yX3_choose cX3_choose 5 none :: ((wsX3_choose_r1 ++ (wsX3_choose_r2 ++ (wsX3_choose_r3 ++ wsX3_choose_r4))) ++ wsX30 ++ wsX10 ++ wsX00)
def wsX4_init : List Cond := .code yX4_init cX4_init 2 none :: ([.methodLink RX4 3 objectInit, .instanceMethod objectInit, .code objectInit ⟨#[0xb1]⟩ 1 none, .classLink RX4 9 RX1, .instantiable RX1 9, .initialized RX1, .fieldLink RX4 12 "ParityGame$Reader" "game" "LParityGame$Game;", .fieldLink RX4 18 "ParityGame$Reader" "errorAt" "I", .fieldLink RX4 22 "ParityGame$Reader" "text" "[I", .instanceMethod yX1_init, .code yX1_init cX1_init 1 none, .methodLink RX1 3 objectInit, .arrayClass .int, .fieldLink RX1 9 "ParityGame$Game" "calls" "[I", .fieldLink RX1 15 "ParityGame$Game" "from" "[I", .fieldLink RX1 18 "ParityGame$Game" "to" "[I", .fieldLink RX1 21 "ParityGame$Game" "heard" "[I"] ++ wsX10 ++ wsX40)
def wsX4_blanksEnd : List Cond := .code yX4_blanksEnd cX4_blanksEnd 3 (some .int) :: ([.fieldLink RX4 32 "ParityGame$Reader" "length" "I", .fieldLink RX4 22 "ParityGame$Reader" "text" "[I"] ++ wsX40)
def wsX4_runEnd : List Cond := .code yX4_runEnd cX4_runEnd 4 (some .int) :: ([.fieldLink RX4 71 "ParityGame$Reader" "start" "I", .fieldLink RX4 32 "ParityGame$Reader" "length" "I", .fieldLink RX4 22 "ParityGame$Reader" "text" "[I"] ++ wsX40)
def wsX4_takeValue : List Cond := .code yX4_takeValue cX4_takeValue 2 none :: ([.fieldLink RX4 94 "ParityGame$Reader" "value" "I", .fieldLink RX4 71 "ParityGame$Reader" "start" "I", .fieldLink RX4 41 "ParityGame$Reader" "end" "I", .fieldLink RX4 22 "ParityGame$Reader" "text" "[I"] ++ wsX40)
def wsX4_takeRun : List Cond := .code yX4_takeRun cX4_takeRun 1 none :: ([.fieldLink RX4 41 "ParityGame$Reader" "end" "I", .fieldLink RX4 71 "ParityGame$Reader" "start" "I", .fieldLink RX4 38 "ParityGame$Reader" "kind" "I", .methodLink RX4 127 yX4_runEnd, .instanceMethod yX4_runEnd, .selects RX4 yX4_runEnd yX4_runEnd, .initialized RX4, .code yX4_runEnd cX4_runEnd 4 (some .int), .fieldLink RX4 32 "ParityGame$Reader" "length" "I", .fieldLink RX4 22 "ParityGame$Reader" "text" "[I", .methodLink RX4 131 yX4_takeValue, .instanceMethod yX4_takeValue, .selects RX4 yX4_takeValue yX4_takeValue, .code yX4_takeValue cX4_takeValue 2 none, .fieldLink RX4 94 "ParityGame$Reader" "value" "I"] ++ wsX40)
def wsX4_advance : List Cond := .code yX4_advance cX4_advance 3 none :: ([.fieldLink RX4 38 "ParityGame$Reader" "kind" "I", .fieldLink RX4 41 "ParityGame$Reader" "end" "I", .fieldLink RX4 71 "ParityGame$Reader" "start" "I", .fieldLink RX4 32 "ParityGame$Reader" "length" "I", .fieldLink RX4 22 "ParityGame$Reader" "text" "[I", .methodLink RX4 120 yX4_blanksEnd, .instanceMethod yX4_blanksEnd, .selects RX4 yX4_blanksEnd yX4_blanksEnd, .initialized RX4, .code yX4_blanksEnd cX4_blanksEnd 3 (some .int), .methodLink RX4 124 yX4_takeRun, .instanceMethod yX4_takeRun, .selects RX4 yX4_takeRun yX4_takeRun, .code yX4_takeRun cX4_takeRun 1 none, .methodLink RX4 127 yX4_runEnd, .instanceMethod yX4_runEnd, .selects RX4 yX4_runEnd yX4_runEnd, .code yX4_runEnd cX4_runEnd 4 (some .int), .methodLink RX4 131 yX4_takeValue, .instanceMethod yX4_takeValue, .selects RX4 yX4_takeValue yX4_takeValue, .code yX4_takeValue cX4_takeValue 2 none, .fieldLink RX4 94 "ParityGame$Reader" "value" "I"] ++ wsX40)
def wsJ0_coder_7d493 : List Cond := .code yJ0_coder_7d493 cJ0_coder_7d493 1 (some .byte) :: ([.fieldLink RJ0 38 "java/lang/String" "COMPACT_STRINGS" "Z", .fieldLink RJ0 15 "java/lang/String" "coder" "B"] ++ wsJ00)
def wsJ0_length_8abf5 : List Cond := .code yJ0_length_8abf5 cJ0_length_8abf5 1 (some .int) :: ([.fieldLink RJ0 9 "java/lang/String" "value" "[B", .methodLink RJ0 335 yJ0_coder_7d493, .instanceMethod yJ0_coder_7d493, .selects RJ0 yJ0_coder_7d493 yJ0_coder_7d493, .initialized RJ0, .code yJ0_coder_7d493 cJ0_coder_7d493 1 (some .byte), .fieldLink RJ0 38 "java/lang/String" "COMPACT_STRINGS" "Z", .fieldLink RJ0 15 "java/lang/String" "coder" "B"] ++ wsJ00)
def wsJ0_isLatin1_aae02 : List Cond := .code yJ0_isLatin1_aae02 cJ0_isLatin1_aae02 1 (some .boolean) :: ([.fieldLink RJ0 38 "java/lang/String" "COMPACT_STRINGS" "Z", .fieldLink RJ0 15 "java/lang/String" "coder" "B"] ++ wsJ00)
def wsJ3_checkIndex_8e157 : List Cond := .code yJ3_checkIndex_8e157 cJ3_checkIndex_8e157 3 (some .int) :: ([])
def wsJ0_checkIndex_df160 : List Cond := .code yJ0_checkIndex_df160 cJ0_checkIndex_df160 2 none :: ([.fieldLink RJ0 1053 "jdk/internal/util/Preconditions" "SIOOBE_FORMATTER" "Ljava/util/function/BiFunction;", .methodLink RJ0 1059 yJ3_checkIndex_8e157, .static yJ3_checkIndex_8e157, .initialized RJ3, .code yJ3_checkIndex_8e157 cJ3_checkIndex_8e157 3 (some .int)])
def wsJ1_charAt_3b067 : List Cond := .code yJ1_charAt_3b067 cJ1_charAt_3b067 2 (some .char) :: ([.methodLink RJ1 9 yJ0_checkIndex_df160, .static yJ0_checkIndex_df160, .initialized RJ0, .code yJ0_checkIndex_df160 cJ0_checkIndex_df160 2 none, .fieldLink RJ0 1053 "jdk/internal/util/Preconditions" "SIOOBE_FORMATTER" "Ljava/util/function/BiFunction;", .methodLink RJ0 1059 yJ3_checkIndex_8e157, .static yJ3_checkIndex_8e157, .initialized RJ3, .code yJ3_checkIndex_8e157 cJ3_checkIndex_8e157 3 (some .int)])
def wsJ0_charAt_5068e_r1 : List Cond := [Cond.fieldLink RJ0 9 "java/lang/String" "value" "[B", Cond.methodLink RJ0 492 yJ0_isLatin1_aae02, Cond.instanceMethod yJ0_isLatin1_aae02, Cond.selects RJ0 yJ0_isLatin1_aae02 yJ0_isLatin1_aae02, Cond.initialized RJ0, Cond.code yJ0_isLatin1_aae02 cJ0_isLatin1_aae02 1 (some .boolean), Cond.fieldLink RJ0 38 "java/lang/String" "COMPACT_STRINGS" "Z", Cond.fieldLink RJ0 15 "java/lang/String" "coder" "B", Cond.methodLink RJ0 495 yJ1_charAt_3b067, Cond.static yJ1_charAt_3b067, Cond.initialized RJ1, Cond.code yJ1_charAt_3b067 cJ1_charAt_3b067 2 (some .char), Cond.methodLink RJ1 9 yJ0_checkIndex_df160, Cond.static yJ0_checkIndex_df160, Cond.code yJ0_checkIndex_df160 cJ0_checkIndex_df160 2 none, Cond.fieldLink RJ0 1053 "jdk/internal/util/Preconditions" "SIOOBE_FORMATTER" "Ljava/util/function/BiFunction;", Cond.methodLink RJ0 1059 yJ3_checkIndex_8e157, Cond.static yJ3_checkIndex_8e157, Cond.initialized RJ3, Cond.code yJ3_checkIndex_8e157 cJ3_checkIndex_8e157 3 (some .int), Cond.methodLink RJ0 498 yJ2_charAt_3b067, Cond.static yJ2_charAt_3b067, Cond.initialized RJ2, Cond.code yJ2_charAt_3b067 cJ2_charAt_3b067 2 (some .char)]
def wsJ0_charAt_5068e_r2 : List Cond := [Cond.methodLink RJ2 67 yJ2_checkIndex_2214a, Cond.static yJ2_checkIndex_2214a, Cond.code yJ2_checkIndex_2214a cJ2_checkIndex_2214a 2 none, Cond.methodLink RJ2 48 yJ2_length_9d52b, Cond.static yJ2_length_9d52b, Cond.code yJ2_length_9d52b cJ2_length_9d52b 1 (some .int), Cond.methodLink RJ2 414 yJ0_checkIndex_df160, Cond.methodLink RJ2 71 yJ2_getChar_3b067, Cond.static yJ2_getChar_3b067, Cond.code yJ2_getChar_3b067 cJ2_getChar_3b067 2 (some .char), Cond.fieldLink RJ2 44 "java/lang/StringUTF16" "$assertionsDisabled" "Z", Cond.fieldLink RJ2 59 "java/lang/StringUTF16" "HI_BYTE_SHIFT" "I", Cond.fieldLink RJ2 63 "java/lang/StringUTF16" "LO_BYTE_SHIFT" "I"]
def wsJ0_charAt_5068e : List Cond := .code yJ0_charAt_5068e cJ0_charAt_5068e 2 (some .char) :: ((wsJ0_charAt_5068e_r1 ++ wsJ0_charAt_5068e_r2) ++ wsJ00)
def wsX4_isWord_r1 : List Cond := [Cond.fieldLink RX4 38 "ParityGame$Reader" "kind" "I", Cond.fieldLink RX4 41 "ParityGame$Reader" "end" "I", Cond.fieldLink RX4 71 "ParityGame$Reader" "start" "I", Cond.fieldLink RX4 22 "ParityGame$Reader" "text" "[I", Cond.methodLink RX4 134 yJ0_length_8abf5, Cond.instanceMethod yJ0_length_8abf5, Cond.selects RJ0 yJ0_length_8abf5 yJ0_length_8abf5, Cond.initialized RJ0, Cond.code yJ0_length_8abf5 cJ0_length_8abf5 1 (some .int), Cond.fieldLink RJ0 9 "java/lang/String" "value" "[B", Cond.methodLink RJ0 335 yJ0_coder_7d493, Cond.instanceMethod yJ0_coder_7d493, Cond.selects RJ0 yJ0_coder_7d493 yJ0_coder_7d493, Cond.code yJ0_coder_7d493 cJ0_coder_7d493 1 (some .byte), Cond.fieldLink RJ0 38 "java/lang/String" "COMPACT_STRINGS" "Z", Cond.fieldLink RJ0 15 "java/lang/String" "coder" "B", Cond.methodLink RX4 139 yJ0_charAt_5068e, Cond.instanceMethod yJ0_charAt_5068e, Cond.selects RJ0 yJ0_charAt_5068e yJ0_charAt_5068e, Cond.code yJ0_charAt_5068e cJ0_charAt_5068e 2 (some .char), Cond.methodLink RJ0 492 yJ0_isLatin1_aae02, Cond.instanceMethod yJ0_isLatin1_aae02, Cond.selects RJ0 yJ0_isLatin1_aae02 yJ0_isLatin1_aae02, Cond.code yJ0_isLatin1_aae02 cJ0_isLatin1_aae02 1 (some .boolean)]
def wsX4_isWord_r2 : List Cond := [Cond.methodLink RJ0 495 yJ1_charAt_3b067, Cond.static yJ1_charAt_3b067, Cond.initialized RJ1, Cond.code yJ1_charAt_3b067 cJ1_charAt_3b067 2 (some .char), Cond.methodLink RJ1 9 yJ0_checkIndex_df160, Cond.static yJ0_checkIndex_df160, Cond.code yJ0_checkIndex_df160 cJ0_checkIndex_df160 2 none, Cond.fieldLink RJ0 1053 "jdk/internal/util/Preconditions" "SIOOBE_FORMATTER" "Ljava/util/function/BiFunction;", Cond.methodLink RJ0 1059 yJ3_checkIndex_8e157, Cond.static yJ3_checkIndex_8e157, Cond.initialized RJ3, Cond.code yJ3_checkIndex_8e157 cJ3_checkIndex_8e157 3 (some .int), Cond.methodLink RJ0 498 yJ2_charAt_3b067, Cond.static yJ2_charAt_3b067, Cond.initialized RJ2, Cond.code yJ2_charAt_3b067 cJ2_charAt_3b067 2 (some .char), Cond.methodLink RJ2 67 yJ2_checkIndex_2214a, Cond.static yJ2_checkIndex_2214a, Cond.code yJ2_checkIndex_2214a cJ2_checkIndex_2214a 2 none, Cond.methodLink RJ2 48 yJ2_length_9d52b, Cond.static yJ2_length_9d52b, Cond.code yJ2_length_9d52b cJ2_length_9d52b 1 (some .int), Cond.methodLink RJ2 414 yJ0_checkIndex_df160, Cond.methodLink RJ2 71 yJ2_getChar_3b067]
def wsX4_isWord_r3 : List Cond := [Cond.static yJ2_getChar_3b067, Cond.code yJ2_getChar_3b067 cJ2_getChar_3b067 2 (some .char), Cond.fieldLink RJ2 44 "java/lang/StringUTF16" "$assertionsDisabled" "Z", Cond.fieldLink RJ2 59 "java/lang/StringUTF16" "HI_BYTE_SHIFT" "I", Cond.fieldLink RJ2 63 "java/lang/StringUTF16" "LO_BYTE_SHIFT" "I"]
def wsX4_isWord : List Cond := .code yX4_isWord cX4_isWord 3 (some .boolean) :: ((wsX4_isWord_r1 ++ (wsX4_isWord_r2 ++ wsX4_isWord_r3)) ++ wsX40 ++ wsJ00)
def wsX4_fail : List Cond := .code yX4_fail cX4_fail 2 none :: ([.fieldLink RX4 35 "ParityGame$Reader" "error" "I", .fieldLink RX4 71 "ParityGame$Reader" "start" "I", .fieldLink RX4 18 "ParityGame$Reader" "errorAt" "I"] ++ wsX40)
def wsX4_readCall : List Cond := .code yX4_readCall cX4_readCall 2 none :: ([.fieldLink RX4 94 "ParityGame$Reader" "value" "I", .fieldLink RX4 12 "ParityGame$Reader" "game" "LParityGame$Game;", .fieldLink RX4 65 "ParityGame$Game" "places" "I", .methodLink RX4 58 yX4_fail, .instanceMethod yX4_fail, .selects RX4 yX4_fail yX4_fail, .initialized RX4, .code yX4_fail cX4_fail 2 none, .fieldLink RX4 35 "ParityGame$Reader" "error" "I", .fieldLink RX4 71 "ParityGame$Reader" "start" "I", .fieldLink RX4 18 "ParityGame$Reader" "errorAt" "I", .methodLink RX4 97 yX1_appendPlace, .instanceMethod yX1_appendPlace, .selects RX1 yX1_appendPlace yX1_appendPlace, .initialized RX1, .code yX1_appendPlace cX1_appendPlace 3 none, .fieldLink RX1 24 "ParityGame$Game" "places" "I", .fieldLink RX1 9 "ParityGame$Game" "calls" "[I", .fieldLink RX1 28 "ParityGame$Game" "odd" "I"] ++ wsX40 ++ wsX10)
def wsX4_readPlaces_r1 : List Cond := [Cond.fieldLink RX4 38 "ParityGame$Reader" "kind" "I", Cond.fieldLink RX4 32 "ParityGame$Reader" "length" "I", Cond.fieldLink RX4 35 "ParityGame$Reader" "error" "I", Cond.methodLink RX4 50 yX4_advance, Cond.instanceMethod yX4_advance, Cond.selects RX4 yX4_advance yX4_advance, Cond.initialized RX4, Cond.code yX4_advance cX4_advance 3 none, Cond.fieldLink RX4 41 "ParityGame$Reader" "end" "I", Cond.fieldLink RX4 71 "ParityGame$Reader" "start" "I", Cond.fieldLink RX4 22 "ParityGame$Reader" "text" "[I", Cond.methodLink RX4 120 yX4_blanksEnd, Cond.instanceMethod yX4_blanksEnd, Cond.selects RX4 yX4_blanksEnd yX4_blanksEnd, Cond.code yX4_blanksEnd cX4_blanksEnd 3 (some .int), Cond.methodLink RX4 124 yX4_takeRun, Cond.instanceMethod yX4_takeRun, Cond.selects RX4 yX4_takeRun yX4_takeRun, Cond.code yX4_takeRun cX4_takeRun 1 none, Cond.methodLink RX4 127 yX4_runEnd, Cond.instanceMethod yX4_runEnd, Cond.selects RX4 yX4_runEnd yX4_runEnd, Cond.code yX4_runEnd cX4_runEnd 4 (some .int), Cond.methodLink RX4 131 yX4_takeValue]
def wsX4_readPlaces_r2 : List Cond := [Cond.instanceMethod yX4_takeValue, Cond.selects RX4 yX4_takeValue yX4_takeValue, Cond.code yX4_takeValue cX4_takeValue 2 none, Cond.fieldLink RX4 94 "ParityGame$Reader" "value" "I", Cond.methodLink RX4 58 yX4_fail, Cond.instanceMethod yX4_fail, Cond.selects RX4 yX4_fail yX4_fail, Cond.code yX4_fail cX4_fail 2 none, Cond.fieldLink RX4 18 "ParityGame$Reader" "errorAt" "I", Cond.methodLink RX4 91 yX4_readCall, Cond.instanceMethod yX4_readCall, Cond.selects RX4 yX4_readCall yX4_readCall, Cond.code yX4_readCall cX4_readCall 2 none, Cond.fieldLink RX4 12 "ParityGame$Reader" "game" "LParityGame$Game;", Cond.fieldLink RX4 65 "ParityGame$Game" "places" "I", Cond.methodLink RX4 97 yX1_appendPlace, Cond.instanceMethod yX1_appendPlace, Cond.selects RX1 yX1_appendPlace yX1_appendPlace, Cond.initialized RX1, Cond.code yX1_appendPlace cX1_appendPlace 3 none, Cond.fieldLink RX1 24 "ParityGame$Game" "places" "I", Cond.fieldLink RX1 9 "ParityGame$Game" "calls" "[I", Cond.fieldLink RX1 28 "ParityGame$Game" "odd" "I"]
def wsX4_readPlaces : List Cond := .code yX4_readPlaces cX4_readPlaces 3 none :: ((wsX4_readPlaces_r1 ++ wsX4_readPlaces_r2) ++ wsX40 ++ wsX10)
def wsX4_needPlaceNumber : List Cond := .code yX4_needPlaceNumber cX4_needPlaceNumber 1 none :: ([.fieldLink RX4 38 "ParityGame$Reader" "kind" "I", .fieldLink RX4 12 "ParityGame$Reader" "game" "LParityGame$Game;", .fieldLink RX4 94 "ParityGame$Reader" "value" "I", .methodLink RX4 58 yX4_fail, .instanceMethod yX4_fail, .selects RX4 yX4_fail yX4_fail, .initialized RX4, .code yX4_fail cX4_fail 2 none, .fieldLink RX4 35 "ParityGame$Reader" "error" "I", .fieldLink RX4 71 "ParityGame$Reader" "start" "I", .fieldLink RX4 18 "ParityGame$Reader" "errorAt" "I", .methodLink RX4 107 yX1_hasPlace, .instanceMethod yX1_hasPlace, .selects RX1 yX1_hasPlace yX1_hasPlace, .initialized RX1, .code yX1_hasPlace cX1_hasPlace 2 (some .boolean), .fieldLink RX1 24 "ParityGame$Game" "places" "I"] ++ wsX40 ++ wsX10)
def wsX4_readMoveTo_r1 : List Cond := [Cond.fieldLink RX4 12 "ParityGame$Reader" "game" "LParityGame$Game;", Cond.fieldLink RX4 94 "ParityGame$Reader" "value" "I", Cond.fieldLink RX4 114 "ParityGame$Game" "moves" "I", Cond.methodLink RX4 107 yX1_hasPlace, Cond.instanceMethod yX1_hasPlace, Cond.selects RX1 yX1_hasPlace yX1_hasPlace, Cond.initialized RX1, Cond.code yX1_hasPlace cX1_hasPlace 2 (some .boolean), Cond.fieldLink RX1 24 "ParityGame$Game" "places" "I", Cond.methodLink RX4 58 yX4_fail, Cond.instanceMethod yX4_fail, Cond.selects RX4 yX4_fail yX4_fail, Cond.initialized RX4, Cond.code yX4_fail cX4_fail 2 none, Cond.fieldLink RX4 35 "ParityGame$Reader" "error" "I", Cond.fieldLink RX4 71 "ParityGame$Reader" "start" "I", Cond.fieldLink RX4 18 "ParityGame$Reader" "errorAt" "I", Cond.methodLink RX4 111 yX1_findMove, Cond.instanceMethod yX1_findMove, Cond.selects RX1 yX1_findMove yX1_findMove, Cond.code yX1_findMove cX1_findMove 4 (some .int), Cond.fieldLink RX1 31 "ParityGame$Game" "moves" "I", Cond.fieldLink RX1 15 "ParityGame$Game" "from" "[I", Cond.fieldLink RX1 18 "ParityGame$Game" "to" "[I"]
def wsX4_readMoveTo_r2 : List Cond := [Cond.methodLink RX4 117 yX1_appendMove, Cond.instanceMethod yX1_appendMove, Cond.selects RX1 yX1_appendMove yX1_appendMove, Cond.code yX1_appendMove cX1_appendMove 3 none]
def wsX4_readMoveTo : List Cond := .code yX4_readMoveTo cX4_readMoveTo 2 none :: ((wsX4_readMoveTo_r1 ++ wsX4_readMoveTo_r2) ++ wsX40 ++ wsX10)
def wsX4_readMoves_r1 : List Cond := [Cond.fieldLink RX4 94 "ParityGame$Reader" "value" "I", Cond.fieldLink RX4 35 "ParityGame$Reader" "error" "I", Cond.fieldLink RX4 38 "ParityGame$Reader" "kind" "I", Cond.fieldLink RX4 32 "ParityGame$Reader" "length" "I", Cond.methodLink RX4 50 yX4_advance, Cond.instanceMethod yX4_advance, Cond.selects RX4 yX4_advance yX4_advance, Cond.initialized RX4, Cond.code yX4_advance cX4_advance 3 none, Cond.fieldLink RX4 41 "ParityGame$Reader" "end" "I", Cond.fieldLink RX4 71 "ParityGame$Reader" "start" "I", Cond.fieldLink RX4 22 "ParityGame$Reader" "text" "[I", Cond.methodLink RX4 120 yX4_blanksEnd, Cond.instanceMethod yX4_blanksEnd, Cond.selects RX4 yX4_blanksEnd yX4_blanksEnd, Cond.code yX4_blanksEnd cX4_blanksEnd 3 (some .int), Cond.methodLink RX4 124 yX4_takeRun, Cond.instanceMethod yX4_takeRun, Cond.selects RX4 yX4_takeRun yX4_takeRun, Cond.code yX4_takeRun cX4_takeRun 1 none, Cond.methodLink RX4 127 yX4_runEnd, Cond.instanceMethod yX4_runEnd, Cond.selects RX4 yX4_runEnd yX4_runEnd, Cond.code yX4_runEnd cX4_runEnd 4 (some .int)]
def wsX4_readMoves_r2 : List Cond := [Cond.methodLink RX4 131 yX4_takeValue, Cond.instanceMethod yX4_takeValue, Cond.selects RX4 yX4_takeValue yX4_takeValue, Cond.code yX4_takeValue cX4_takeValue 2 none, Cond.methodLink RX4 101 yX4_needPlaceNumber, Cond.instanceMethod yX4_needPlaceNumber, Cond.selects RX4 yX4_needPlaceNumber yX4_needPlaceNumber, Cond.code yX4_needPlaceNumber cX4_needPlaceNumber 1 none, Cond.fieldLink RX4 12 "ParityGame$Reader" "game" "LParityGame$Game;", Cond.methodLink RX4 58 yX4_fail, Cond.instanceMethod yX4_fail, Cond.selects RX4 yX4_fail yX4_fail, Cond.code yX4_fail cX4_fail 2 none, Cond.fieldLink RX4 18 "ParityGame$Reader" "errorAt" "I", Cond.methodLink RX4 107 yX1_hasPlace, Cond.instanceMethod yX1_hasPlace, Cond.selects RX1 yX1_hasPlace yX1_hasPlace, Cond.initialized RX1, Cond.code yX1_hasPlace cX1_hasPlace 2 (some .boolean), Cond.fieldLink RX1 24 "ParityGame$Game" "places" "I", Cond.methodLink RX4 104 yX4_readMoveTo, Cond.instanceMethod yX4_readMoveTo, Cond.selects RX4 yX4_readMoveTo yX4_readMoveTo, Cond.code yX4_readMoveTo cX4_readMoveTo 2 none]
def wsX4_readMoves_r3 : List Cond := [Cond.fieldLink RX4 114 "ParityGame$Game" "moves" "I", Cond.methodLink RX4 111 yX1_findMove, Cond.instanceMethod yX1_findMove, Cond.selects RX1 yX1_findMove yX1_findMove, Cond.code yX1_findMove cX1_findMove 4 (some .int), Cond.fieldLink RX1 31 "ParityGame$Game" "moves" "I", Cond.fieldLink RX1 15 "ParityGame$Game" "from" "[I", Cond.fieldLink RX1 18 "ParityGame$Game" "to" "[I", Cond.methodLink RX4 117 yX1_appendMove, Cond.instanceMethod yX1_appendMove, Cond.selects RX1 yX1_appendMove yX1_appendMove, Cond.code yX1_appendMove cX1_appendMove 3 none]
def wsX4_readMoves : List Cond := .code yX4_readMoves cX4_readMoves 3 none :: ((wsX4_readMoves_r1 ++ (wsX4_readMoves_r2 ++ wsX4_readMoves_r3)) ++ wsX40 ++ wsX10)
def wsX4_readToken_r1 : List Cond := [Cond.fieldLink RX4 35 "ParityGame$Reader" "error" "I", Cond.fieldLink RX4 94 "ParityGame$Reader" "value" "I", Cond.fieldLink RX4 44 "ParityGame$Reader" "laid" "I", Cond.methodLink RX4 50 yX4_advance, Cond.instanceMethod yX4_advance, Cond.selects RX4 yX4_advance yX4_advance, Cond.initialized RX4, Cond.code yX4_advance cX4_advance 3 none, Cond.fieldLink RX4 38 "ParityGame$Reader" "kind" "I", Cond.fieldLink RX4 41 "ParityGame$Reader" "end" "I", Cond.fieldLink RX4 71 "ParityGame$Reader" "start" "I", Cond.fieldLink RX4 32 "ParityGame$Reader" "length" "I", Cond.fieldLink RX4 22 "ParityGame$Reader" "text" "[I", Cond.methodLink RX4 120 yX4_blanksEnd, Cond.instanceMethod yX4_blanksEnd, Cond.selects RX4 yX4_blanksEnd yX4_blanksEnd, Cond.code yX4_blanksEnd cX4_blanksEnd 3 (some .int), Cond.methodLink RX4 124 yX4_takeRun, Cond.instanceMethod yX4_takeRun, Cond.selects RX4 yX4_takeRun yX4_takeRun, Cond.code yX4_takeRun cX4_takeRun 1 none, Cond.methodLink RX4 127 yX4_runEnd, Cond.instanceMethod yX4_runEnd, Cond.selects RX4 yX4_runEnd yX4_runEnd]
def wsX4_readToken_r2 : List Cond := [Cond.code yX4_runEnd cX4_runEnd 4 (some .int), Cond.methodLink RX4 131 yX4_takeValue, Cond.instanceMethod yX4_takeValue, Cond.selects RX4 yX4_takeValue yX4_takeValue, Cond.code yX4_takeValue cX4_takeValue 2 none, Cond.methodLink RX4 101 yX4_needPlaceNumber, Cond.instanceMethod yX4_needPlaceNumber, Cond.selects RX4 yX4_needPlaceNumber yX4_needPlaceNumber, Cond.code yX4_needPlaceNumber cX4_needPlaceNumber 1 none, Cond.fieldLink RX4 12 "ParityGame$Reader" "game" "LParityGame$Game;", Cond.methodLink RX4 58 yX4_fail, Cond.instanceMethod yX4_fail, Cond.selects RX4 yX4_fail yX4_fail, Cond.code yX4_fail cX4_fail 2 none, Cond.fieldLink RX4 18 "ParityGame$Reader" "errorAt" "I", Cond.methodLink RX4 107 yX1_hasPlace, Cond.instanceMethod yX1_hasPlace, Cond.selects RX1 yX1_hasPlace yX1_hasPlace, Cond.initialized RX1, Cond.code yX1_hasPlace cX1_hasPlace 2 (some .boolean), Cond.fieldLink RX1 24 "ParityGame$Game" "places" "I"]
def wsX4_readToken : List Cond := .code yX4_readToken cX4_readToken 1 none :: ((wsX4_readToken_r1 ++ wsX4_readToken_r2) ++ wsX40 ++ wsX10)
def wsX4_readLine_r1 : List Cond := [Cond.methodLink RX4 54 yX4_isWord, Cond.instanceMethod yX4_isWord, Cond.selects RX4 yX4_isWord yX4_isWord, Cond.initialized RX4, Cond.code yX4_isWord cX4_isWord 3 (some .boolean), Cond.fieldLink RX4 38 "ParityGame$Reader" "kind" "I", Cond.fieldLink RX4 41 "ParityGame$Reader" "end" "I", Cond.fieldLink RX4 71 "ParityGame$Reader" "start" "I", Cond.fieldLink RX4 22 "ParityGame$Reader" "text" "[I", Cond.methodLink RX4 134 yJ0_length_8abf5, Cond.instanceMethod yJ0_length_8abf5, Cond.selects RJ0 yJ0_length_8abf5 yJ0_length_8abf5, Cond.initialized RJ0, Cond.code yJ0_length_8abf5 cJ0_length_8abf5 1 (some .int), Cond.fieldLink RJ0 9 "java/lang/String" "value" "[B", Cond.methodLink RJ0 335 yJ0_coder_7d493, Cond.instanceMethod yJ0_coder_7d493, Cond.selects RJ0 yJ0_coder_7d493 yJ0_coder_7d493, Cond.code yJ0_coder_7d493 cJ0_coder_7d493 1 (some .byte), Cond.fieldLink RJ0 38 "java/lang/String" "COMPACT_STRINGS" "Z", Cond.fieldLink RJ0 15 "java/lang/String" "coder" "B", Cond.methodLink RX4 139 yJ0_charAt_5068e, Cond.instanceMethod yJ0_charAt_5068e, Cond.selects RJ0 yJ0_charAt_5068e yJ0_charAt_5068e]
def wsX4_readLine_r2 : List Cond := [Cond.code yJ0_charAt_5068e cJ0_charAt_5068e 2 (some .char), Cond.methodLink RJ0 492 yJ0_isLatin1_aae02, Cond.instanceMethod yJ0_isLatin1_aae02, Cond.selects RJ0 yJ0_isLatin1_aae02 yJ0_isLatin1_aae02, Cond.code yJ0_isLatin1_aae02 cJ0_isLatin1_aae02 1 (some .boolean), Cond.methodLink RJ0 495 yJ1_charAt_3b067, Cond.static yJ1_charAt_3b067, Cond.initialized RJ1, Cond.code yJ1_charAt_3b067 cJ1_charAt_3b067 2 (some .char), Cond.methodLink RJ1 9 yJ0_checkIndex_df160, Cond.static yJ0_checkIndex_df160, Cond.code yJ0_checkIndex_df160 cJ0_checkIndex_df160 2 none, Cond.fieldLink RJ0 1053 "jdk/internal/util/Preconditions" "SIOOBE_FORMATTER" "Ljava/util/function/BiFunction;", Cond.methodLink RJ0 1059 yJ3_checkIndex_8e157, Cond.static yJ3_checkIndex_8e157, Cond.initialized RJ3, Cond.code yJ3_checkIndex_8e157 cJ3_checkIndex_8e157 3 (some .int), Cond.methodLink RJ0 498 yJ2_charAt_3b067, Cond.static yJ2_charAt_3b067, Cond.initialized RJ2, Cond.code yJ2_charAt_3b067 cJ2_charAt_3b067 2 (some .char), Cond.methodLink RJ2 67 yJ2_checkIndex_2214a, Cond.static yJ2_checkIndex_2214a, Cond.code yJ2_checkIndex_2214a cJ2_checkIndex_2214a 2 none]
def wsX4_readLine_r3 : List Cond := [Cond.methodLink RJ2 48 yJ2_length_9d52b, Cond.static yJ2_length_9d52b, Cond.code yJ2_length_9d52b cJ2_length_9d52b 1 (some .int), Cond.methodLink RJ2 414 yJ0_checkIndex_df160, Cond.methodLink RJ2 71 yJ2_getChar_3b067, Cond.static yJ2_getChar_3b067, Cond.code yJ2_getChar_3b067 cJ2_getChar_3b067 2 (some .char), Cond.fieldLink RJ2 44 "java/lang/StringUTF16" "$assertionsDisabled" "Z", Cond.fieldLink RJ2 59 "java/lang/StringUTF16" "HI_BYTE_SHIFT" "I", Cond.fieldLink RJ2 63 "java/lang/StringUTF16" "LO_BYTE_SHIFT" "I", Cond.methodLink RX4 76 yX4_readPlaces, Cond.instanceMethod yX4_readPlaces, Cond.selects RX4 yX4_readPlaces yX4_readPlaces, Cond.code yX4_readPlaces cX4_readPlaces 3 none, Cond.fieldLink RX4 32 "ParityGame$Reader" "length" "I", Cond.fieldLink RX4 35 "ParityGame$Reader" "error" "I", Cond.methodLink RX4 50 yX4_advance, Cond.instanceMethod yX4_advance, Cond.selects RX4 yX4_advance yX4_advance, Cond.code yX4_advance cX4_advance 3 none, Cond.methodLink RX4 120 yX4_blanksEnd, Cond.instanceMethod yX4_blanksEnd, Cond.selects RX4 yX4_blanksEnd yX4_blanksEnd, Cond.code yX4_blanksEnd cX4_blanksEnd 3 (some .int)]
def wsX4_readLine_r4 : List Cond := [Cond.methodLink RX4 124 yX4_takeRun, Cond.instanceMethod yX4_takeRun, Cond.selects RX4 yX4_takeRun yX4_takeRun, Cond.code yX4_takeRun cX4_takeRun 1 none, Cond.methodLink RX4 127 yX4_runEnd, Cond.instanceMethod yX4_runEnd, Cond.selects RX4 yX4_runEnd yX4_runEnd, Cond.code yX4_runEnd cX4_runEnd 4 (some .int), Cond.methodLink RX4 131 yX4_takeValue, Cond.instanceMethod yX4_takeValue, Cond.selects RX4 yX4_takeValue yX4_takeValue, Cond.code yX4_takeValue cX4_takeValue 2 none, Cond.fieldLink RX4 94 "ParityGame$Reader" "value" "I", Cond.methodLink RX4 58 yX4_fail, Cond.instanceMethod yX4_fail, Cond.selects RX4 yX4_fail yX4_fail, Cond.code yX4_fail cX4_fail 2 none, Cond.fieldLink RX4 18 "ParityGame$Reader" "errorAt" "I", Cond.methodLink RX4 91 yX4_readCall, Cond.instanceMethod yX4_readCall, Cond.selects RX4 yX4_readCall yX4_readCall, Cond.code yX4_readCall cX4_readCall 2 none, Cond.fieldLink RX4 12 "ParityGame$Reader" "game" "LParityGame$Game;", Cond.fieldLink RX4 65 "ParityGame$Game" "places" "I"]
def wsX4_readLine_r5 : List Cond := [Cond.methodLink RX4 97 yX1_appendPlace, Cond.instanceMethod yX1_appendPlace, Cond.selects RX1 yX1_appendPlace yX1_appendPlace, Cond.initialized RX1, Cond.code yX1_appendPlace cX1_appendPlace 3 none, Cond.fieldLink RX1 24 "ParityGame$Game" "places" "I", Cond.fieldLink RX1 9 "ParityGame$Game" "calls" "[I", Cond.fieldLink RX1 28 "ParityGame$Game" "odd" "I", Cond.methodLink RX4 83 yX4_readMoves, Cond.instanceMethod yX4_readMoves, Cond.selects RX4 yX4_readMoves yX4_readMoves, Cond.code yX4_readMoves cX4_readMoves 3 none, Cond.methodLink RX4 101 yX4_needPlaceNumber, Cond.instanceMethod yX4_needPlaceNumber, Cond.selects RX4 yX4_needPlaceNumber yX4_needPlaceNumber, Cond.code yX4_needPlaceNumber cX4_needPlaceNumber 1 none, Cond.methodLink RX4 107 yX1_hasPlace, Cond.instanceMethod yX1_hasPlace, Cond.selects RX1 yX1_hasPlace yX1_hasPlace, Cond.code yX1_hasPlace cX1_hasPlace 2 (some .boolean), Cond.methodLink RX4 104 yX4_readMoveTo, Cond.instanceMethod yX4_readMoveTo, Cond.selects RX4 yX4_readMoveTo yX4_readMoveTo, Cond.code yX4_readMoveTo cX4_readMoveTo 2 none]
def wsX4_readLine_r6 : List Cond := [Cond.fieldLink RX4 114 "ParityGame$Game" "moves" "I", Cond.methodLink RX4 111 yX1_findMove, Cond.instanceMethod yX1_findMove, Cond.selects RX1 yX1_findMove yX1_findMove, Cond.code yX1_findMove cX1_findMove 4 (some .int), Cond.fieldLink RX1 31 "ParityGame$Game" "moves" "I", Cond.fieldLink RX1 15 "ParityGame$Game" "from" "[I", Cond.fieldLink RX1 18 "ParityGame$Game" "to" "[I", Cond.methodLink RX4 117 yX1_appendMove, Cond.instanceMethod yX1_appendMove, Cond.selects RX1 yX1_appendMove yX1_appendMove, Cond.code yX1_appendMove cX1_appendMove 3 none, Cond.methodLink RX4 88 yX4_readToken, Cond.instanceMethod yX4_readToken, Cond.selects RX4 yX4_readToken yX4_readToken, Cond.code yX4_readToken cX4_readToken 1 none, Cond.fieldLink RX4 44 "ParityGame$Reader" "laid" "I"]
def wsX4_readLine : List Cond := .code yX4_readLine cX4_readLine 1 none :: ((wsX4_readLine_r1 ++ (wsX4_readLine_r2 ++ (wsX4_readLine_r3 ++ (wsX4_readLine_r4 ++ (wsX4_readLine_r5 ++ wsX4_readLine_r6))))) ++ wsX40 ++ wsJ00 ++ wsX10)
def wsX4_read_r1 : List Cond := [Cond.fieldLink RX4 22 "ParityGame$Reader" "text" "[I", Cond.methodLink RX4 26 Lib.Math.min.name, Cond.static Lib.Math.min.name, Cond.initialized "java/lang/Math", Cond.code Lib.Math.min.name Lib.Math.min.code 2 (some .int), Cond.fieldLink RX4 32 "ParityGame$Reader" "length" "I", Cond.fieldLink RX4 35 "ParityGame$Reader" "error" "I", Cond.fieldLink RX4 18 "ParityGame$Reader" "errorAt" "I", Cond.fieldLink RX4 38 "ParityGame$Reader" "kind" "I", Cond.fieldLink RX4 41 "ParityGame$Reader" "end" "I", Cond.fieldLink RX4 44 "ParityGame$Reader" "laid" "I", Cond.fieldLink RX4 12 "ParityGame$Reader" "game" "LParityGame$Game;", Cond.fieldLink RX4 65 "ParityGame$Game" "places" "I", Cond.methodLink RX4 47 yX1_clear, Cond.instanceMethod yX1_clear, Cond.selects RX1 yX1_clear yX1_clear, Cond.initialized RX1, Cond.code yX1_clear cX1_clear 1 none, Cond.fieldLink RX1 24 "ParityGame$Game" "places" "I", Cond.fieldLink RX1 28 "ParityGame$Game" "odd" "I", Cond.fieldLink RX1 31 "ParityGame$Game" "moves" "I", Cond.fieldLink RX1 34 "ParityGame$Game" "token" "I", Cond.fieldLink RX1 37 "ParityGame$Game" "made" "I", Cond.methodLink RX4 50 yX4_advance]
def wsX4_read_r2 : List Cond := [Cond.instanceMethod yX4_advance, Cond.selects RX4 yX4_advance yX4_advance, Cond.initialized RX4, Cond.code yX4_advance cX4_advance 3 none, Cond.fieldLink RX4 71 "ParityGame$Reader" "start" "I", Cond.methodLink RX4 120 yX4_blanksEnd, Cond.instanceMethod yX4_blanksEnd, Cond.selects RX4 yX4_blanksEnd yX4_blanksEnd, Cond.code yX4_blanksEnd cX4_blanksEnd 3 (some .int), Cond.methodLink RX4 124 yX4_takeRun, Cond.instanceMethod yX4_takeRun, Cond.selects RX4 yX4_takeRun yX4_takeRun, Cond.code yX4_takeRun cX4_takeRun 1 none, Cond.methodLink RX4 127 yX4_runEnd, Cond.instanceMethod yX4_runEnd, Cond.selects RX4 yX4_runEnd yX4_runEnd, Cond.code yX4_runEnd cX4_runEnd 4 (some .int), Cond.methodLink RX4 131 yX4_takeValue, Cond.instanceMethod yX4_takeValue, Cond.selects RX4 yX4_takeValue yX4_takeValue, Cond.code yX4_takeValue cX4_takeValue 2 none, Cond.fieldLink RX4 94 "ParityGame$Reader" "value" "I", Cond.methodLink RX4 54 yX4_isWord, Cond.instanceMethod yX4_isWord]
def wsX4_read_r3 : List Cond := [Cond.selects RX4 yX4_isWord yX4_isWord, Cond.code yX4_isWord cX4_isWord 3 (some .boolean), Cond.methodLink RX4 134 yJ0_length_8abf5, Cond.instanceMethod yJ0_length_8abf5, Cond.selects RJ0 yJ0_length_8abf5 yJ0_length_8abf5, Cond.initialized RJ0, Cond.code yJ0_length_8abf5 cJ0_length_8abf5 1 (some .int), Cond.fieldLink RJ0 9 "java/lang/String" "value" "[B", Cond.methodLink RJ0 335 yJ0_coder_7d493, Cond.instanceMethod yJ0_coder_7d493, Cond.selects RJ0 yJ0_coder_7d493 yJ0_coder_7d493, Cond.code yJ0_coder_7d493 cJ0_coder_7d493 1 (some .byte), Cond.fieldLink RJ0 38 "java/lang/String" "COMPACT_STRINGS" "Z", Cond.fieldLink RJ0 15 "java/lang/String" "coder" "B", Cond.methodLink RX4 139 yJ0_charAt_5068e, Cond.instanceMethod yJ0_charAt_5068e, Cond.selects RJ0 yJ0_charAt_5068e yJ0_charAt_5068e, Cond.code yJ0_charAt_5068e cJ0_charAt_5068e 2 (some .char), Cond.methodLink RJ0 492 yJ0_isLatin1_aae02, Cond.instanceMethod yJ0_isLatin1_aae02, Cond.selects RJ0 yJ0_isLatin1_aae02 yJ0_isLatin1_aae02, Cond.code yJ0_isLatin1_aae02 cJ0_isLatin1_aae02 1 (some .boolean), Cond.methodLink RJ0 495 yJ1_charAt_3b067, Cond.static yJ1_charAt_3b067]
def wsX4_read_r4 : List Cond := [Cond.initialized RJ1, Cond.code yJ1_charAt_3b067 cJ1_charAt_3b067 2 (some .char), Cond.methodLink RJ1 9 yJ0_checkIndex_df160, Cond.static yJ0_checkIndex_df160, Cond.code yJ0_checkIndex_df160 cJ0_checkIndex_df160 2 none, Cond.fieldLink RJ0 1053 "jdk/internal/util/Preconditions" "SIOOBE_FORMATTER" "Ljava/util/function/BiFunction;", Cond.methodLink RJ0 1059 yJ3_checkIndex_8e157, Cond.static yJ3_checkIndex_8e157, Cond.initialized RJ3, Cond.code yJ3_checkIndex_8e157 cJ3_checkIndex_8e157 3 (some .int), Cond.methodLink RJ0 498 yJ2_charAt_3b067, Cond.static yJ2_charAt_3b067, Cond.initialized RJ2, Cond.code yJ2_charAt_3b067 cJ2_charAt_3b067 2 (some .char), Cond.methodLink RJ2 67 yJ2_checkIndex_2214a, Cond.static yJ2_checkIndex_2214a, Cond.code yJ2_checkIndex_2214a cJ2_checkIndex_2214a 2 none, Cond.methodLink RJ2 48 yJ2_length_9d52b, Cond.static yJ2_length_9d52b, Cond.code yJ2_length_9d52b cJ2_length_9d52b 1 (some .int), Cond.methodLink RJ2 414 yJ0_checkIndex_df160, Cond.methodLink RJ2 71 yJ2_getChar_3b067, Cond.static yJ2_getChar_3b067, Cond.code yJ2_getChar_3b067 cJ2_getChar_3b067 2 (some .char)]
def wsX4_read_r5 : List Cond := [Cond.fieldLink RJ2 44 "java/lang/StringUTF16" "$assertionsDisabled" "Z", Cond.fieldLink RJ2 59 "java/lang/StringUTF16" "HI_BYTE_SHIFT" "I", Cond.fieldLink RJ2 63 "java/lang/StringUTF16" "LO_BYTE_SHIFT" "I", Cond.methodLink RX4 58 yX4_fail, Cond.instanceMethod yX4_fail, Cond.selects RX4 yX4_fail yX4_fail, Cond.code yX4_fail cX4_fail 2 none, Cond.methodLink RX4 62 yX4_readLine, Cond.instanceMethod yX4_readLine, Cond.selects RX4 yX4_readLine yX4_readLine, Cond.code yX4_readLine cX4_readLine 1 none, Cond.methodLink RX4 76 yX4_readPlaces, Cond.instanceMethod yX4_readPlaces, Cond.selects RX4 yX4_readPlaces yX4_readPlaces, Cond.code yX4_readPlaces cX4_readPlaces 3 none, Cond.methodLink RX4 91 yX4_readCall, Cond.instanceMethod yX4_readCall, Cond.selects RX4 yX4_readCall yX4_readCall, Cond.code yX4_readCall cX4_readCall 2 none, Cond.methodLink RX4 97 yX1_appendPlace, Cond.instanceMethod yX1_appendPlace, Cond.selects RX1 yX1_appendPlace yX1_appendPlace, Cond.code yX1_appendPlace cX1_appendPlace 3 none, Cond.fieldLink RX1 9 "ParityGame$Game" "calls" "[I"]
def wsX4_read_r6 : List Cond := [Cond.methodLink RX4 83 yX4_readMoves, Cond.instanceMethod yX4_readMoves, Cond.selects RX4 yX4_readMoves yX4_readMoves, Cond.code yX4_readMoves cX4_readMoves 3 none, Cond.methodLink RX4 101 yX4_needPlaceNumber, Cond.instanceMethod yX4_needPlaceNumber, Cond.selects RX4 yX4_needPlaceNumber yX4_needPlaceNumber, Cond.code yX4_needPlaceNumber cX4_needPlaceNumber 1 none, Cond.methodLink RX4 107 yX1_hasPlace, Cond.instanceMethod yX1_hasPlace, Cond.selects RX1 yX1_hasPlace yX1_hasPlace, Cond.code yX1_hasPlace cX1_hasPlace 2 (some .boolean), Cond.methodLink RX4 104 yX4_readMoveTo, Cond.instanceMethod yX4_readMoveTo, Cond.selects RX4 yX4_readMoveTo yX4_readMoveTo, Cond.code yX4_readMoveTo cX4_readMoveTo 2 none, Cond.fieldLink RX4 114 "ParityGame$Game" "moves" "I", Cond.methodLink RX4 111 yX1_findMove, Cond.instanceMethod yX1_findMove, Cond.selects RX1 yX1_findMove yX1_findMove, Cond.code yX1_findMove cX1_findMove 4 (some .int), Cond.fieldLink RX1 15 "ParityGame$Game" "from" "[I", Cond.fieldLink RX1 18 "ParityGame$Game" "to" "[I", Cond.methodLink RX4 117 yX1_appendMove]
def wsX4_read_r7 : List Cond := [Cond.instanceMethod yX1_appendMove, Cond.selects RX1 yX1_appendMove yX1_appendMove, Cond.code yX1_appendMove cX1_appendMove 3 none, Cond.methodLink RX4 88 yX4_readToken, Cond.instanceMethod yX4_readToken, Cond.selects RX4 yX4_readToken yX4_readToken, Cond.code yX4_readToken cX4_readToken 1 none, Cond.methodLink RX4 68 yX1_layAt, Cond.instanceMethod yX1_layAt, Cond.selects RX1 yX1_layAt yX1_layAt, Cond.code yX1_layAt cX1_layAt 3 none, Cond.fieldLink RX1 21 "ParityGame$Game" "heard" "[I"]
def wsX4_read : List Cond := .code yX4_read cX4_read 3 (some .boolean) :: ((wsX4_read_r1 ++ (wsX4_read_r2 ++ (wsX4_read_r3 ++ (wsX4_read_r4 ++ (wsX4_read_r5 ++ (wsX4_read_r6 ++ wsX4_read_r7)))))) ++ wsX40 ++ wsX10 ++ wsJ00)
def wsX5_init_r1 : List Cond := [Cond.methodLink RX5 3 objectInit, Cond.instanceMethod objectInit, Cond.code objectInit ⟨#[0xb1]⟩ 1 none, Cond.classLink RX5 9 RX1, Cond.instantiable RX1 9, Cond.initialized RX1, Cond.fieldLink RX5 12 "ParityGame" "game" "LParityGame$Game;", Cond.arrayClass .int, Cond.fieldLink RX5 16 "ParityGame" "input" "[I", Cond.classLink RX5 20 RX4, Cond.instantiable RX4 10, Cond.initialized RX4, Cond.fieldLink RX5 25 "ParityGame" "reader" "LParityGame$Reader;", Cond.classLink RX5 29 RX2, Cond.instantiable RX2 3, Cond.initialized RX2, Cond.fieldLink RX5 32 "ParityGame" "history" "LParityGame$History;", Cond.fieldLink RX5 36 "ParityGame" "saved" "[LParityGame$Game;", Cond.arrayClass .boolean, Cond.fieldLink RX5 40 "ParityGame" "isSaved" "[Z", Cond.classLink RX5 44 RX0, Cond.instantiable RX0 5, Cond.initialized RX0, Cond.fieldLink RX5 47 "ParityGame" "board" "LParityGame$Board;"]
def wsX5_init_r2 : List Cond := [Cond.classLink RX5 51 RX3, Cond.instantiable RX3 5, Cond.initialized RX3, Cond.fieldLink RX5 56 "ParityGame" "plan" "LParityGame$Plan;", Cond.fieldLink RX5 60 "ParityGame" "seenAt" "[I", Cond.arrayClass .byte, Cond.fieldLink RX5 63 "ParityGame" "output" "[B", Cond.instanceMethod yX1_init, Cond.code yX1_init cX1_init 1 none, Cond.methodLink RX1 3 objectInit, Cond.fieldLink RX1 9 "ParityGame$Game" "calls" "[I", Cond.fieldLink RX1 15 "ParityGame$Game" "from" "[I", Cond.fieldLink RX1 18 "ParityGame$Game" "to" "[I", Cond.fieldLink RX1 21 "ParityGame$Game" "heard" "[I", Cond.methodLink RX5 22 yX4_init, Cond.instanceMethod yX4_init, Cond.code yX4_init cX4_init 2 none, Cond.methodLink RX4 3 objectInit, Cond.classLink RX4 9 RX1, Cond.fieldLink RX4 12 "ParityGame$Reader" "game" "LParityGame$Game;", Cond.fieldLink RX4 18 "ParityGame$Reader" "errorAt" "I", Cond.fieldLink RX4 22 "ParityGame$Reader" "text" "[I", Cond.methodLink RX5 31 yX2_init, Cond.instanceMethod yX2_init]
def wsX5_init_r3 : List Cond := [Cond.code yX2_init cX2_init 2 none, Cond.methodLink RX2 3 objectInit, Cond.classLink RX2 9 RX1, Cond.fieldLink RX2 11 "ParityGame$History" "ring" "[LParityGame$Game;", Cond.instanceMethod yX0_init, Cond.code yX0_init cX0_init 1 none, Cond.methodLink RX0 3 objectInit, Cond.fieldLink RX0 9 "ParityGame$Board" "owned" "[I", Cond.fieldLink RX0 15 "ParityGame$Board" "calling" "[I", Cond.fieldLink RX0 18 "ParityGame$Board" "next" "[I", Cond.methodLink RX5 53 yX3_init, Cond.instanceMethod yX3_init, Cond.code yX3_init cX3_init 2 none, Cond.methodLink RX3 3 objectInit, Cond.fieldLink RX3 9 "ParityGame$Plan" "chosen" "[I", Cond.fieldLink RX3 15 "ParityGame$Plan" "board" "LParityGame$Board;", Cond.methodLink RX5 67 yX1_appendPlace, Cond.instanceMethod yX1_appendPlace, Cond.selects RX1 yX1_appendPlace yX1_appendPlace, Cond.code yX1_appendPlace cX1_appendPlace 3 none, Cond.fieldLink RX1 24 "ParityGame$Game" "places" "I", Cond.fieldLink RX1 28 "ParityGame$Game" "odd" "I", Cond.methodLink RX5 71 yX1_appendMove, Cond.instanceMethod yX1_appendMove]
def wsX5_init_r4 : List Cond := [Cond.selects RX1 yX1_appendMove yX1_appendMove, Cond.code yX1_appendMove cX1_appendMove 3 none, Cond.fieldLink RX1 31 "ParityGame$Game" "moves" "I", Cond.methodLink RX5 74 yX1_layAt, Cond.instanceMethod yX1_layAt, Cond.selects RX1 yX1_layAt yX1_layAt, Cond.code yX1_layAt cX1_layAt 3 none, Cond.fieldLink RX1 34 "ParityGame$Game" "token" "I", Cond.fieldLink RX1 37 "ParityGame$Game" "made" "I"]
def wsX5_init : List Cond := .code yX5_init cX5_init 2 none :: ((wsX5_init_r1 ++ (wsX5_init_r2 ++ (wsX5_init_r3 ++ wsX5_init_r4))) ++ wsX10 ++ wsX50 ++ wsX40 ++ wsX20 ++ wsX00 ++ wsX30)
def wsX5_appendFour : List Cond := .code yX5_appendFour cX5_appendFour 3 none :: ([.fieldLink RX5 78 "ParityGame" "inputLength" "I", .fieldLink RX5 16 "ParityGame" "input" "[I"] ++ wsX50)
def wsX5_feed : List Cond := .code yX5_feed cX5_feed 6 (some .int) :: ([.classLink RX5 82 "java/lang/IllegalStateException", .initialized "java/lang/IllegalStateException", .fieldLink RX5 78 "ParityGame" "inputLength" "I", .methodLink RX5 89 yX5_appendFour, .instanceMethod yX5_appendFour, .selects RX5 yX5_appendFour yX5_appendFour, .initialized RX5, .code yX5_appendFour cX5_appendFour 3 none, .fieldLink RX5 16 "ParityGame" "input" "[I"] ++ wsX50 ++ (vx_atS RX5 86 "java/lang/IllegalStateException" ["java/lang/RuntimeException", "java/lang/Exception"]).filter goodWord)
def wsX5_load_r1 : List Cond := [Cond.classLink RX5 92 "java/lang/IllegalArgumentException", Cond.initialized "java/lang/IllegalArgumentException", Cond.classLink RX5 82 "java/lang/IllegalStateException", Cond.initialized "java/lang/IllegalStateException", Cond.fieldLink RX5 78 "ParityGame" "inputLength" "I", Cond.fieldLink RX5 25 "ParityGame" "reader" "LParityGame$Reader;", Cond.fieldLink RX5 12 "ParityGame" "game" "LParityGame$Game;", Cond.fieldLink RX5 103 "ParityGame$Reader" "game" "LParityGame$Game;", Cond.fieldLink RX5 56 "ParityGame" "plan" "LParityGame$Plan;", Cond.fieldLink RX5 32 "ParityGame" "history" "LParityGame$History;", Cond.fieldLink RX5 40 "ParityGame" "isSaved" "[Z", Cond.fieldLink RX5 114 "ParityGame$Game" "places" "I", Cond.methodLink RX5 97 yX4_read, Cond.instanceMethod yX4_read, Cond.selects RX4 yX4_read yX4_read, Cond.initialized RX4, Cond.code yX4_read cX4_read 3 (some .boolean), Cond.fieldLink RX4 22 "ParityGame$Reader" "text" "[I", Cond.methodLink RX4 26 Lib.Math.min.name, Cond.static Lib.Math.min.name, Cond.initialized "java/lang/Math", Cond.code Lib.Math.min.name Lib.Math.min.code 2 (some .int), Cond.fieldLink RX4 32 "ParityGame$Reader" "length" "I", Cond.fieldLink RX4 35 "ParityGame$Reader" "error" "I"]
def wsX5_load_r2 : List Cond := [Cond.fieldLink RX4 18 "ParityGame$Reader" "errorAt" "I", Cond.fieldLink RX4 38 "ParityGame$Reader" "kind" "I", Cond.fieldLink RX4 41 "ParityGame$Reader" "end" "I", Cond.fieldLink RX4 44 "ParityGame$Reader" "laid" "I", Cond.fieldLink RX4 12 "ParityGame$Reader" "game" "LParityGame$Game;", Cond.fieldLink RX4 65 "ParityGame$Game" "places" "I", Cond.methodLink RX4 47 yX1_clear, Cond.instanceMethod yX1_clear, Cond.selects RX1 yX1_clear yX1_clear, Cond.initialized RX1, Cond.code yX1_clear cX1_clear 1 none, Cond.fieldLink RX1 24 "ParityGame$Game" "places" "I", Cond.fieldLink RX1 28 "ParityGame$Game" "odd" "I", Cond.fieldLink RX1 31 "ParityGame$Game" "moves" "I", Cond.fieldLink RX1 34 "ParityGame$Game" "token" "I", Cond.fieldLink RX1 37 "ParityGame$Game" "made" "I", Cond.methodLink RX4 50 yX4_advance, Cond.instanceMethod yX4_advance, Cond.selects RX4 yX4_advance yX4_advance, Cond.code yX4_advance cX4_advance 3 none, Cond.fieldLink RX4 71 "ParityGame$Reader" "start" "I", Cond.methodLink RX4 120 yX4_blanksEnd, Cond.instanceMethod yX4_blanksEnd, Cond.selects RX4 yX4_blanksEnd yX4_blanksEnd]
def wsX5_load_r3 : List Cond := [Cond.code yX4_blanksEnd cX4_blanksEnd 3 (some .int), Cond.methodLink RX4 124 yX4_takeRun, Cond.instanceMethod yX4_takeRun, Cond.selects RX4 yX4_takeRun yX4_takeRun, Cond.code yX4_takeRun cX4_takeRun 1 none, Cond.methodLink RX4 127 yX4_runEnd, Cond.instanceMethod yX4_runEnd, Cond.selects RX4 yX4_runEnd yX4_runEnd, Cond.code yX4_runEnd cX4_runEnd 4 (some .int), Cond.methodLink RX4 131 yX4_takeValue, Cond.instanceMethod yX4_takeValue, Cond.selects RX4 yX4_takeValue yX4_takeValue, Cond.code yX4_takeValue cX4_takeValue 2 none, Cond.fieldLink RX4 94 "ParityGame$Reader" "value" "I", Cond.methodLink RX4 54 yX4_isWord, Cond.instanceMethod yX4_isWord, Cond.selects RX4 yX4_isWord yX4_isWord, Cond.code yX4_isWord cX4_isWord 3 (some .boolean), Cond.methodLink RX4 134 yJ0_length_8abf5, Cond.instanceMethod yJ0_length_8abf5, Cond.selects RJ0 yJ0_length_8abf5 yJ0_length_8abf5, Cond.initialized RJ0, Cond.code yJ0_length_8abf5 cJ0_length_8abf5 1 (some .int), Cond.fieldLink RJ0 9 "java/lang/String" "value" "[B"]
def wsX5_load_r4 : List Cond := [Cond.methodLink RJ0 335 yJ0_coder_7d493, Cond.instanceMethod yJ0_coder_7d493, Cond.selects RJ0 yJ0_coder_7d493 yJ0_coder_7d493, Cond.code yJ0_coder_7d493 cJ0_coder_7d493 1 (some .byte), Cond.fieldLink RJ0 38 "java/lang/String" "COMPACT_STRINGS" "Z", Cond.fieldLink RJ0 15 "java/lang/String" "coder" "B", Cond.methodLink RX4 139 yJ0_charAt_5068e, Cond.instanceMethod yJ0_charAt_5068e, Cond.selects RJ0 yJ0_charAt_5068e yJ0_charAt_5068e, Cond.code yJ0_charAt_5068e cJ0_charAt_5068e 2 (some .char), Cond.methodLink RJ0 492 yJ0_isLatin1_aae02, Cond.instanceMethod yJ0_isLatin1_aae02, Cond.selects RJ0 yJ0_isLatin1_aae02 yJ0_isLatin1_aae02, Cond.code yJ0_isLatin1_aae02 cJ0_isLatin1_aae02 1 (some .boolean), Cond.methodLink RJ0 495 yJ1_charAt_3b067, Cond.static yJ1_charAt_3b067, Cond.initialized RJ1, Cond.code yJ1_charAt_3b067 cJ1_charAt_3b067 2 (some .char), Cond.methodLink RJ1 9 yJ0_checkIndex_df160, Cond.static yJ0_checkIndex_df160, Cond.code yJ0_checkIndex_df160 cJ0_checkIndex_df160 2 none, Cond.fieldLink RJ0 1053 "jdk/internal/util/Preconditions" "SIOOBE_FORMATTER" "Ljava/util/function/BiFunction;", Cond.methodLink RJ0 1059 yJ3_checkIndex_8e157, Cond.static yJ3_checkIndex_8e157]
def wsX5_load_r5 : List Cond := [Cond.initialized RJ3, Cond.code yJ3_checkIndex_8e157 cJ3_checkIndex_8e157 3 (some .int), Cond.methodLink RJ0 498 yJ2_charAt_3b067, Cond.static yJ2_charAt_3b067, Cond.initialized RJ2, Cond.code yJ2_charAt_3b067 cJ2_charAt_3b067 2 (some .char), Cond.methodLink RJ2 67 yJ2_checkIndex_2214a, Cond.static yJ2_checkIndex_2214a, Cond.code yJ2_checkIndex_2214a cJ2_checkIndex_2214a 2 none, Cond.methodLink RJ2 48 yJ2_length_9d52b, Cond.static yJ2_length_9d52b, Cond.code yJ2_length_9d52b cJ2_length_9d52b 1 (some .int), Cond.methodLink RJ2 414 yJ0_checkIndex_df160, Cond.methodLink RJ2 71 yJ2_getChar_3b067, Cond.static yJ2_getChar_3b067, Cond.code yJ2_getChar_3b067 cJ2_getChar_3b067 2 (some .char), Cond.fieldLink RJ2 44 "java/lang/StringUTF16" "$assertionsDisabled" "Z", Cond.fieldLink RJ2 59 "java/lang/StringUTF16" "HI_BYTE_SHIFT" "I", Cond.fieldLink RJ2 63 "java/lang/StringUTF16" "LO_BYTE_SHIFT" "I", Cond.methodLink RX4 58 yX4_fail, Cond.instanceMethod yX4_fail, Cond.selects RX4 yX4_fail yX4_fail, Cond.code yX4_fail cX4_fail 2 none, Cond.methodLink RX4 62 yX4_readLine]
def wsX5_load_r6 : List Cond := [Cond.instanceMethod yX4_readLine, Cond.selects RX4 yX4_readLine yX4_readLine, Cond.code yX4_readLine cX4_readLine 1 none, Cond.methodLink RX4 76 yX4_readPlaces, Cond.instanceMethod yX4_readPlaces, Cond.selects RX4 yX4_readPlaces yX4_readPlaces, Cond.code yX4_readPlaces cX4_readPlaces 3 none, Cond.methodLink RX4 91 yX4_readCall, Cond.instanceMethod yX4_readCall, Cond.selects RX4 yX4_readCall yX4_readCall, Cond.code yX4_readCall cX4_readCall 2 none, Cond.methodLink RX4 97 yX1_appendPlace, Cond.instanceMethod yX1_appendPlace, Cond.selects RX1 yX1_appendPlace yX1_appendPlace, Cond.code yX1_appendPlace cX1_appendPlace 3 none, Cond.fieldLink RX1 9 "ParityGame$Game" "calls" "[I", Cond.methodLink RX4 83 yX4_readMoves, Cond.instanceMethod yX4_readMoves, Cond.selects RX4 yX4_readMoves yX4_readMoves, Cond.code yX4_readMoves cX4_readMoves 3 none, Cond.methodLink RX4 101 yX4_needPlaceNumber, Cond.instanceMethod yX4_needPlaceNumber, Cond.selects RX4 yX4_needPlaceNumber yX4_needPlaceNumber, Cond.code yX4_needPlaceNumber cX4_needPlaceNumber 1 none]
def wsX5_load_r7 : List Cond := [Cond.methodLink RX4 107 yX1_hasPlace, Cond.instanceMethod yX1_hasPlace, Cond.selects RX1 yX1_hasPlace yX1_hasPlace, Cond.code yX1_hasPlace cX1_hasPlace 2 (some .boolean), Cond.methodLink RX4 104 yX4_readMoveTo, Cond.instanceMethod yX4_readMoveTo, Cond.selects RX4 yX4_readMoveTo yX4_readMoveTo, Cond.code yX4_readMoveTo cX4_readMoveTo 2 none, Cond.fieldLink RX4 114 "ParityGame$Game" "moves" "I", Cond.methodLink RX4 111 yX1_findMove, Cond.instanceMethod yX1_findMove, Cond.selects RX1 yX1_findMove yX1_findMove, Cond.code yX1_findMove cX1_findMove 4 (some .int), Cond.fieldLink RX1 15 "ParityGame$Game" "from" "[I", Cond.fieldLink RX1 18 "ParityGame$Game" "to" "[I", Cond.methodLink RX4 117 yX1_appendMove, Cond.instanceMethod yX1_appendMove, Cond.selects RX1 yX1_appendMove yX1_appendMove, Cond.code yX1_appendMove cX1_appendMove 3 none, Cond.methodLink RX4 88 yX4_readToken, Cond.instanceMethod yX4_readToken, Cond.selects RX4 yX4_readToken yX4_readToken, Cond.code yX4_readToken cX4_readToken 1 none, Cond.methodLink RX4 68 yX1_layAt]
def wsX5_load_r8 : List Cond := [Cond.instanceMethod yX1_layAt, Cond.selects RX1 yX1_layAt yX1_layAt, Cond.code yX1_layAt cX1_layAt 3 none, Cond.fieldLink RX1 21 "ParityGame$Game" "heard" "[I", Cond.methodLink RX5 104 yX1_copy, Cond.instanceMethod yX1_copy, Cond.selects RX1 yX1_copy yX1_copy, Cond.code yX1_copy cX1_copy 2 none, Cond.methodLink RX1 40 arraycopyName, Cond.native arraycopyName, Cond.static arraycopyName, Cond.initialized "java/lang/System", Cond.methodLink RX5 108 yX3_forget, Cond.instanceMethod yX3_forget, Cond.selects RX3 yX3_forget yX3_forget, Cond.initialized RX3, Cond.code yX3_forget cX3_forget 1 none, Cond.fieldLink RX3 19 "ParityGame$Plan" "zeroKnown" "Z", Cond.fieldLink RX3 23 "ParityGame$Plan" "chosenKnown" "Z", Cond.methodLink RX5 111 yX2_clear, Cond.instanceMethod yX2_clear, Cond.selects RX2 yX2_clear yX2_clear, Cond.initialized RX2, Cond.code yX2_clear cX2_clear 1 none]
def wsX5_load_r9 : List Cond := [Cond.fieldLink RX2 18 "ParityGame$History" "first" "I", Cond.fieldLink RX2 22 "ParityGame$History" "kept" "I"]
def wsX5_load : List Cond := .code yX5_load cX5_load 4 (some .int) :: ((wsX5_load_r1 ++ (wsX5_load_r2 ++ (wsX5_load_r3 ++ (wsX5_load_r4 ++ (wsX5_load_r5 ++ (wsX5_load_r6 ++ (wsX5_load_r7 ++ (wsX5_load_r8 ++ wsX5_load_r9)))))))) ++ wsX50 ++ wsX40 ++ wsX10 ++ wsJ00 ++ wsX30 ++ wsX20 ++ (vx_atS RX5 96 "java/lang/IllegalArgumentException" ["java/lang/RuntimeException", "java/lang/Exception"]).filter goodWord ++ (vx_atS RX5 86 "java/lang/IllegalStateException" ["java/lang/RuntimeException", "java/lang/Exception"]).filter goodWord)
def wsJ6_bitCount_0f7a4 : List Cond := .code yJ6_bitCount_0f7a4 cJ6_bitCount_0f7a4 1 (some .int) :: ([.constant RJ6 265 (1431655765), .constant RJ6 266 (858993459), .constant RJ6 267 (252645135)])
def wsX5_size_r1 : List Cond := [Cond.classLink RX5 92 "java/lang/IllegalArgumentException", Cond.initialized "java/lang/IllegalArgumentException", Cond.fieldLink RX5 12 "ParityGame" "game" "LParityGame$Game;", Cond.fieldLink RX5 114 "ParityGame$Game" "places" "I", Cond.fieldLink RX5 123 "ParityGame$Game" "moves" "I", Cond.fieldLink RX5 126 "ParityGame$Game" "odd" "I", Cond.fieldLink RX5 47 "ParityGame" "board" "LParityGame$Board;", Cond.fieldLink RX5 148 "ParityGame$Game" "token" "I", Cond.fieldLink RX5 151 "ParityGame$Game" "made" "I", Cond.methodLink RX5 129 yJ6_bitCount_0f7a4, Cond.static yJ6_bitCount_0f7a4, Cond.initialized RJ6, Cond.code yJ6_bitCount_0f7a4 cJ6_bitCount_0f7a4 1 (some .int), Cond.constant RJ6 265 (1431655765), Cond.constant RJ6 266 (858993459), Cond.constant RJ6 267 (252645135), Cond.methodLink RX5 135 yX0_take, Cond.instanceMethod yX0_take, Cond.selects RX0 yX0_take yX0_take, Cond.initialized RX0, Cond.code yX0_take cX0_take 3 none, Cond.fieldLink RX0 21 "ParityGame$Game" "places" "I", Cond.fieldLink RX0 27 "ParityGame$Board" "places" "I", Cond.fieldLink RX0 28 "ParityGame$Board" "all" "I"]
def wsX5_size_r2 : List Cond := [Cond.fieldLink RX0 9 "ParityGame$Board" "owned" "[I", Cond.fieldLink RX0 31 "ParityGame$Game" "odd" "I", Cond.fieldLink RX0 15 "ParityGame$Board" "calling" "[I", Cond.fieldLink RX0 34 "ParityGame$Game" "calls" "[I", Cond.fieldLink RX0 18 "ParityGame$Board" "next" "[I", Cond.fieldLink RX0 37 "ParityGame$Game" "moves" "I", Cond.fieldLink RX0 40 "ParityGame$Game" "from" "[I", Cond.fieldLink RX0 43 "ParityGame$Game" "to" "[I", Cond.methodLink RX0 46 yX0_join, Cond.instanceMethod yX0_join, Cond.selects RX0 yX0_join yX0_join, Cond.code yX0_join cX0_join 3 none, Cond.methodLink RX5 138 yX0_deadEnds, Cond.instanceMethod yX0_deadEnds, Cond.selects RX0 yX0_deadEnds yX0_deadEnds, Cond.code yX0_deadEnds cX0_deadEnds 3 (some .int), Cond.methodLink RX5 142 yX0_differentCalls, Cond.instanceMethod yX0_differentCalls, Cond.selects RX0 yX0_differentCalls yX0_differentCalls, Cond.code yX0_differentCalls cX0_differentCalls 3 (some .int), Cond.methodLink RX5 145 yX1_greatestCall, Cond.instanceMethod yX1_greatestCall, Cond.selects RX1 yX1_greatestCall yX1_greatestCall, Cond.initialized RX1]
def wsX5_size_r3 : List Cond := [Cond.code yX1_greatestCall cX1_greatestCall 3 (some .int), Cond.fieldLink RX1 24 "ParityGame$Game" "places" "I", Cond.fieldLink RX1 9 "ParityGame$Game" "calls" "[I", Cond.methodLink RX1 46 Lib.Math.max.name, Cond.static Lib.Math.max.name, Cond.initialized "java/lang/Math", Cond.code Lib.Math.max.name Lib.Math.max.code 2 (some .int)]
def wsX5_size : List Cond := .code yX5_size cX5_size 2 (some .int) :: ((wsX5_size_r1 ++ (wsX5_size_r2 ++ wsX5_size_r3)) ++ wsX50 ++ wsX10 ++ wsX00 ++ (vx_atS RX5 96 "java/lang/IllegalArgumentException" ["java/lang/RuntimeException", "java/lang/Exception"]).filter goodWord)
def wsX5_needPlace : List Cond := .code yX5_needPlace cX5_needPlace 2 none :: ([.classLink RX5 330 "java/util/NoSuchElementException", .initialized "java/util/NoSuchElementException", .fieldLink RX5 12 "ParityGame" "game" "LParityGame$Game;", .methodLink RX5 327 yX1_hasPlace, .instanceMethod yX1_hasPlace, .selects RX1 yX1_hasPlace yX1_hasPlace, .initialized RX1, .code yX1_hasPlace cX1_hasPlace 2 (some .boolean), .fieldLink RX1 24 "ParityGame$Game" "places" "I"] ++ wsX50 ++ wsX10 ++ (vx_atS RX5 334 "java/util/NoSuchElementException" ["java/lang/RuntimeException", "java/lang/Exception"]).filter goodWord)
def wsX5_winnerOf_r1 : List Cond := [Cond.fieldLink RX5 56 "ParityGame" "plan" "LParityGame$Plan;", Cond.fieldLink RX5 12 "ParityGame" "game" "LParityGame$Game;", Cond.methodLink RX5 198 yX3_wonBy, Cond.instanceMethod yX3_wonBy, Cond.selects RX3 yX3_wonBy yX3_wonBy, Cond.initialized RX3, Cond.code yX3_wonBy cX3_wonBy 3 (some .int), Cond.fieldLink RX3 19 "ParityGame$Plan" "zeroKnown" "Z", Cond.fieldLink RX3 15 "ParityGame$Plan" "board" "LParityGame$Board;", Cond.fieldLink RX3 36 "ParityGame$Plan" "zero" "I", Cond.fieldLink RX3 40 "ParityGame$Game" "places" "I", Cond.methodLink RX3 26 yX0_take, Cond.instanceMethod yX0_take, Cond.selects RX0 yX0_take yX0_take, Cond.initialized RX0, Cond.code yX0_take cX0_take 3 none, Cond.fieldLink RX0 21 "ParityGame$Game" "places" "I", Cond.fieldLink RX0 27 "ParityGame$Board" "places" "I", Cond.fieldLink RX0 28 "ParityGame$Board" "all" "I", Cond.fieldLink RX0 9 "ParityGame$Board" "owned" "[I", Cond.fieldLink RX0 31 "ParityGame$Game" "odd" "I", Cond.fieldLink RX0 15 "ParityGame$Board" "calling" "[I", Cond.fieldLink RX0 34 "ParityGame$Game" "calls" "[I", Cond.fieldLink RX0 18 "ParityGame$Board" "next" "[I"]
def wsX5_winnerOf_r2 : List Cond := [Cond.fieldLink RX0 37 "ParityGame$Game" "moves" "I", Cond.fieldLink RX0 40 "ParityGame$Game" "from" "[I", Cond.fieldLink RX0 43 "ParityGame$Game" "to" "[I", Cond.methodLink RX0 46 yX0_join, Cond.instanceMethod yX0_join, Cond.selects RX0 yX0_join yX0_join, Cond.code yX0_join cX0_join 3 none, Cond.methodLink RX3 32 yX0_wonBy, Cond.instanceMethod yX0_wonBy, Cond.selects RX0 yX0_wonBy yX0_wonBy, Cond.code yX0_wonBy cX0_wonBy 5 (some .int), Cond.methodLink RX0 58 yX0_deadEnds, Cond.instanceMethod yX0_deadEnds, Cond.selects RX0 yX0_deadEnds yX0_deadEnds, Cond.code yX0_deadEnds cX0_deadEnds 3 (some .int), Cond.methodLink RX0 62 yX0_attract, Cond.instanceMethod yX0_attract, Cond.selects RX0 yX0_attract yX0_attract, Cond.code yX0_attract cX0_attract 7 (some .int), Cond.methodLink RX0 50 yX0_before, Cond.instanceMethod yX0_before, Cond.selects RX0 yX0_before yX0_before, Cond.code yX0_before cX0_before 10 (some .int), Cond.methodLink RX0 66 yX0_wonEndless]
def wsX5_winnerOf_r3 : List Cond := [Cond.static yX0_wonEndless, Cond.code yX0_wonEndless cX0_wonEndless 10 (some .int), Cond.methodLink RX0 70 yX0_greatestCall, Cond.instanceMethod yX0_greatestCall, Cond.selects RX0 yX0_greatestCall yX0_greatestCall, Cond.code yX0_greatestCall cX0_greatestCall 4 (some .int), Cond.methodLink RX5 210 yX5_has, Cond.static yX5_has, Cond.initialized RX5, Cond.code yX5_has cX5_has 2 (some .boolean)]
def wsX5_winnerOf : List Cond := .code yX5_winnerOf cX5_winnerOf 2 (some .int) :: ((wsX5_winnerOf_r1 ++ (wsX5_winnerOf_r2 ++ wsX5_winnerOf_r3)) ++ wsX50 ++ wsX30 ++ wsX10 ++ wsX00)
def wsX5_place_r1 : List Cond := [Cond.classLink RX5 92 "java/lang/IllegalArgumentException", Cond.initialized "java/lang/IllegalArgumentException", Cond.fieldLink RX5 12 "ParityGame" "game" "LParityGame$Game;", Cond.fieldLink RX5 162 "ParityGame$Game" "calls" "[I", Cond.methodLink RX5 156 yX5_needPlace, Cond.instanceMethod yX5_needPlace, Cond.selects RX5 yX5_needPlace yX5_needPlace, Cond.initialized RX5, Cond.code yX5_needPlace cX5_needPlace 2 none, Cond.classLink RX5 330 "java/util/NoSuchElementException", Cond.initialized "java/util/NoSuchElementException", Cond.methodLink RX5 327 yX1_hasPlace, Cond.instanceMethod yX1_hasPlace, Cond.selects RX1 yX1_hasPlace yX1_hasPlace, Cond.initialized RX1, Cond.code yX1_hasPlace cX1_hasPlace 2 (some .boolean), Cond.fieldLink RX1 24 "ParityGame$Game" "places" "I", Cond.methodLink RX5 159 yX1_ownerOf, Cond.instanceMethod yX1_ownerOf, Cond.selects RX1 yX1_ownerOf yX1_ownerOf, Cond.code yX1_ownerOf cX1_ownerOf 2 (some .int), Cond.fieldLink RX1 28 "ParityGame$Game" "odd" "I", Cond.methodLink RX5 165 yX1_movesFrom, Cond.instanceMethod yX1_movesFrom]
def wsX5_place_r2 : List Cond := [Cond.selects RX1 yX1_movesFrom yX1_movesFrom, Cond.code yX1_movesFrom cX1_movesFrom 4 (some .int), Cond.fieldLink RX1 31 "ParityGame$Game" "moves" "I", Cond.fieldLink RX1 15 "ParityGame$Game" "from" "[I", Cond.methodLink RX5 168 yX1_movesTo, Cond.instanceMethod yX1_movesTo, Cond.selects RX1 yX1_movesTo yX1_movesTo, Cond.code yX1_movesTo cX1_movesTo 4 (some .int), Cond.fieldLink RX1 18 "ParityGame$Game" "to" "[I", Cond.methodLink RX5 171 yX5_winnerOf, Cond.instanceMethod yX5_winnerOf, Cond.selects RX5 yX5_winnerOf yX5_winnerOf, Cond.code yX5_winnerOf cX5_winnerOf 2 (some .int), Cond.fieldLink RX5 56 "ParityGame" "plan" "LParityGame$Plan;", Cond.methodLink RX5 198 yX3_wonBy, Cond.instanceMethod yX3_wonBy, Cond.selects RX3 yX3_wonBy yX3_wonBy, Cond.initialized RX3, Cond.code yX3_wonBy cX3_wonBy 3 (some .int), Cond.fieldLink RX3 19 "ParityGame$Plan" "zeroKnown" "Z", Cond.fieldLink RX3 15 "ParityGame$Plan" "board" "LParityGame$Board;", Cond.fieldLink RX3 36 "ParityGame$Plan" "zero" "I", Cond.fieldLink RX3 40 "ParityGame$Game" "places" "I", Cond.methodLink RX3 26 yX0_take]
def wsX5_place_r3 : List Cond := [Cond.instanceMethod yX0_take, Cond.selects RX0 yX0_take yX0_take, Cond.initialized RX0, Cond.code yX0_take cX0_take 3 none, Cond.fieldLink RX0 21 "ParityGame$Game" "places" "I", Cond.fieldLink RX0 27 "ParityGame$Board" "places" "I", Cond.fieldLink RX0 28 "ParityGame$Board" "all" "I", Cond.fieldLink RX0 9 "ParityGame$Board" "owned" "[I", Cond.fieldLink RX0 31 "ParityGame$Game" "odd" "I", Cond.fieldLink RX0 15 "ParityGame$Board" "calling" "[I", Cond.fieldLink RX0 34 "ParityGame$Game" "calls" "[I", Cond.fieldLink RX0 18 "ParityGame$Board" "next" "[I", Cond.fieldLink RX0 37 "ParityGame$Game" "moves" "I", Cond.fieldLink RX0 40 "ParityGame$Game" "from" "[I", Cond.fieldLink RX0 43 "ParityGame$Game" "to" "[I", Cond.methodLink RX0 46 yX0_join, Cond.instanceMethod yX0_join, Cond.selects RX0 yX0_join yX0_join, Cond.code yX0_join cX0_join 3 none, Cond.methodLink RX3 32 yX0_wonBy, Cond.instanceMethod yX0_wonBy, Cond.selects RX0 yX0_wonBy yX0_wonBy, Cond.code yX0_wonBy cX0_wonBy 5 (some .int), Cond.methodLink RX0 58 yX0_deadEnds]
def wsX5_place_r4 : List Cond := [Cond.instanceMethod yX0_deadEnds, Cond.selects RX0 yX0_deadEnds yX0_deadEnds, Cond.code yX0_deadEnds cX0_deadEnds 3 (some .int), Cond.methodLink RX0 62 yX0_attract, Cond.instanceMethod yX0_attract, Cond.selects RX0 yX0_attract yX0_attract, Cond.code yX0_attract cX0_attract 7 (some .int), Cond.methodLink RX0 50 yX0_before, Cond.instanceMethod yX0_before, Cond.selects RX0 yX0_before yX0_before, Cond.code yX0_before cX0_before 10 (some .int), Cond.methodLink RX0 66 yX0_wonEndless, Cond.static yX0_wonEndless, Cond.code yX0_wonEndless cX0_wonEndless 10 (some .int), Cond.methodLink RX0 70 yX0_greatestCall, Cond.instanceMethod yX0_greatestCall, Cond.selects RX0 yX0_greatestCall yX0_greatestCall, Cond.code yX0_greatestCall cX0_greatestCall 4 (some .int), Cond.methodLink RX5 210 yX5_has, Cond.static yX5_has, Cond.code yX5_has cX5_has 2 (some .boolean)]
def wsX5_place : List Cond := .code yX5_place cX5_place 3 (some .int) :: ((wsX5_place_r1 ++ (wsX5_place_r2 ++ (wsX5_place_r3 ++ wsX5_place_r4))) ++ wsX50 ++ wsX10 ++ wsX30 ++ wsX00 ++ (vx_atS RX5 96 "java/lang/IllegalArgumentException" ["java/lang/RuntimeException", "java/lang/Exception"]).filter goodWord ++ (vx_atS RX5 334 "java/util/NoSuchElementException" ["java/lang/RuntimeException", "java/lang/Exception"]).filter goodWord)
def wsX5_needMove : List Cond := .code yX5_needMove cX5_needMove 2 none :: ([.classLink RX5 330 "java/util/NoSuchElementException", .initialized "java/util/NoSuchElementException", .fieldLink RX5 12 "ParityGame" "game" "LParityGame$Game;", .fieldLink RX5 123 "ParityGame$Game" "moves" "I"] ++ wsX50 ++ wsX10 ++ (vx_atS RX5 334 "java/util/NoSuchElementException" ["java/lang/RuntimeException", "java/lang/Exception"]).filter goodWord)
def wsX5_move : List Cond := .code yX5_move cX5_move 3 (some .int) :: ([.classLink RX5 92 "java/lang/IllegalArgumentException", .initialized "java/lang/IllegalArgumentException", .fieldLink RX5 12 "ParityGame" "game" "LParityGame$Game;", .fieldLink RX5 179 "ParityGame$Game" "from" "[I", .fieldLink RX5 182 "ParityGame$Game" "to" "[I", .methodLink RX5 174 yX5_needMove, .instanceMethod yX5_needMove, .selects RX5 yX5_needMove yX5_needMove, .initialized RX5, .code yX5_needMove cX5_needMove 2 none, .classLink RX5 330 "java/util/NoSuchElementException", .initialized "java/util/NoSuchElementException", .fieldLink RX5 123 "ParityGame$Game" "moves" "I"] ++ wsX50 ++ wsX10 ++ (vx_atS RX5 96 "java/lang/IllegalArgumentException" ["java/lang/RuntimeException", "java/lang/Exception"]).filter goodWord ++ (vx_atS RX5 334 "java/util/NoSuchElementException" ["java/lang/RuntimeException", "java/lang/Exception"]).filter goodWord)
def wsX5_moveBetween : List Cond := .code yX5_moveBetween cX5_moveBetween 3 (some .int) :: ([.fieldLink RX5 12 "ParityGame" "game" "LParityGame$Game;", .methodLink RX5 156 yX5_needPlace, .instanceMethod yX5_needPlace, .selects RX5 yX5_needPlace yX5_needPlace, .initialized RX5, .code yX5_needPlace cX5_needPlace 2 none, .classLink RX5 330 "java/util/NoSuchElementException", .initialized "java/util/NoSuchElementException", .methodLink RX5 327 yX1_hasPlace, .instanceMethod yX1_hasPlace, .selects RX1 yX1_hasPlace yX1_hasPlace, .initialized RX1, .code yX1_hasPlace cX1_hasPlace 2 (some .boolean), .fieldLink RX1 24 "ParityGame$Game" "places" "I", .methodLink RX5 185 yX1_findMove, .instanceMethod yX1_findMove, .selects RX1 yX1_findMove yX1_findMove, .code yX1_findMove cX1_findMove 4 (some .int), .fieldLink RX1 31 "ParityGame$Game" "moves" "I", .fieldLink RX1 15 "ParityGame$Game" "from" "[I", .fieldLink RX1 18 "ParityGame$Game" "to" "[I"] ++ wsX50 ++ wsX10 ++ (vx_atS RX5 334 "java/util/NoSuchElementException" ["java/lang/RuntimeException", "java/lang/Exception"]).filter goodWord)
def wsX5_needCall : List Cond := .code yX5_needCall cX5_needCall 1 none :: ([.classLink RX5 92 "java/lang/IllegalArgumentException", .initialized "java/lang/IllegalArgumentException"] ++ (vx_atS RX5 96 "java/lang/IllegalArgumentException" ["java/lang/RuntimeException", "java/lang/Exception"]).filter goodWord)
def wsX5_heard : List Cond := .code yX5_heard cX5_heard 2 (some .int) :: ([.fieldLink RX5 12 "ParityGame" "game" "LParityGame$Game;", .fieldLink RX5 192 "ParityGame$Game" "heard" "[I", .methodLink RX5 189 yX5_needCall, .static yX5_needCall, .initialized RX5, .code yX5_needCall cX5_needCall 1 none, .classLink RX5 92 "java/lang/IllegalArgumentException", .initialized "java/lang/IllegalArgumentException"] ++ wsX50 ++ wsX10 ++ (vx_atS RX5 96 "java/lang/IllegalArgumentException" ["java/lang/RuntimeException", "java/lang/Exception"]).filter goodWord)
def wsX5_needPlayer : List Cond := .code yX5_needPlayer cX5_needPlayer 1 none :: ([.classLink RX5 92 "java/lang/IllegalArgumentException", .initialized "java/lang/IllegalArgumentException"] ++ (vx_atS RX5 96 "java/lang/IllegalArgumentException" ["java/lang/RuntimeException", "java/lang/Exception"]).filter goodWord)
def wsX5_won_r1 : List Cond := [Cond.fieldLink RX5 56 "ParityGame" "plan" "LParityGame$Plan;", Cond.fieldLink RX5 12 "ParityGame" "game" "LParityGame$Game;", Cond.methodLink RX5 195 yX5_needPlayer, Cond.static yX5_needPlayer, Cond.initialized RX5, Cond.code yX5_needPlayer cX5_needPlayer 1 none, Cond.classLink RX5 92 "java/lang/IllegalArgumentException", Cond.initialized "java/lang/IllegalArgumentException", Cond.methodLink RX5 198 yX3_wonBy, Cond.instanceMethod yX3_wonBy, Cond.selects RX3 yX3_wonBy yX3_wonBy, Cond.initialized RX3, Cond.code yX3_wonBy cX3_wonBy 3 (some .int), Cond.fieldLink RX3 19 "ParityGame$Plan" "zeroKnown" "Z", Cond.fieldLink RX3 15 "ParityGame$Plan" "board" "LParityGame$Board;", Cond.fieldLink RX3 36 "ParityGame$Plan" "zero" "I", Cond.fieldLink RX3 40 "ParityGame$Game" "places" "I", Cond.methodLink RX3 26 yX0_take, Cond.instanceMethod yX0_take, Cond.selects RX0 yX0_take yX0_take, Cond.initialized RX0, Cond.code yX0_take cX0_take 3 none, Cond.fieldLink RX0 21 "ParityGame$Game" "places" "I", Cond.fieldLink RX0 27 "ParityGame$Board" "places" "I"]
def wsX5_won_r2 : List Cond := [Cond.fieldLink RX0 28 "ParityGame$Board" "all" "I", Cond.fieldLink RX0 9 "ParityGame$Board" "owned" "[I", Cond.fieldLink RX0 31 "ParityGame$Game" "odd" "I", Cond.fieldLink RX0 15 "ParityGame$Board" "calling" "[I", Cond.fieldLink RX0 34 "ParityGame$Game" "calls" "[I", Cond.fieldLink RX0 18 "ParityGame$Board" "next" "[I", Cond.fieldLink RX0 37 "ParityGame$Game" "moves" "I", Cond.fieldLink RX0 40 "ParityGame$Game" "from" "[I", Cond.fieldLink RX0 43 "ParityGame$Game" "to" "[I", Cond.methodLink RX0 46 yX0_join, Cond.instanceMethod yX0_join, Cond.selects RX0 yX0_join yX0_join, Cond.code yX0_join cX0_join 3 none, Cond.methodLink RX3 32 yX0_wonBy, Cond.instanceMethod yX0_wonBy, Cond.selects RX0 yX0_wonBy yX0_wonBy, Cond.code yX0_wonBy cX0_wonBy 5 (some .int), Cond.methodLink RX0 58 yX0_deadEnds, Cond.instanceMethod yX0_deadEnds, Cond.selects RX0 yX0_deadEnds yX0_deadEnds, Cond.code yX0_deadEnds cX0_deadEnds 3 (some .int), Cond.methodLink RX0 62 yX0_attract, Cond.instanceMethod yX0_attract, Cond.selects RX0 yX0_attract yX0_attract]
def wsX5_won_r3 : List Cond := [Cond.code yX0_attract cX0_attract 7 (some .int), Cond.methodLink RX0 50 yX0_before, Cond.instanceMethod yX0_before, Cond.selects RX0 yX0_before yX0_before, Cond.code yX0_before cX0_before 10 (some .int), Cond.methodLink RX0 66 yX0_wonEndless, Cond.static yX0_wonEndless, Cond.code yX0_wonEndless cX0_wonEndless 10 (some .int), Cond.methodLink RX0 70 yX0_greatestCall, Cond.instanceMethod yX0_greatestCall, Cond.selects RX0 yX0_greatestCall yX0_greatestCall, Cond.code yX0_greatestCall cX0_greatestCall 4 (some .int)]
def wsX5_won : List Cond := .code yX5_won cX5_won 2 (some .int) :: ((wsX5_won_r1 ++ (wsX5_won_r2 ++ wsX5_won_r3)) ++ wsX50 ++ wsX30 ++ wsX10 ++ wsX00 ++ (vx_atS RX5 96 "java/lang/IllegalArgumentException" ["java/lang/RuntimeException", "java/lang/Exception"]).filter goodWord)
def wsX5_shareOf_r1 : List Cond := [Cond.fieldLink RX5 56 "ParityGame" "plan" "LParityGame$Plan;", Cond.fieldLink RX5 12 "ParityGame" "game" "LParityGame$Game;", Cond.fieldLink RX5 114 "ParityGame$Game" "places" "I", Cond.methodLink RX5 198 yX3_wonBy, Cond.instanceMethod yX3_wonBy, Cond.selects RX3 yX3_wonBy yX3_wonBy, Cond.initialized RX3, Cond.code yX3_wonBy cX3_wonBy 3 (some .int), Cond.fieldLink RX3 19 "ParityGame$Plan" "zeroKnown" "Z", Cond.fieldLink RX3 15 "ParityGame$Plan" "board" "LParityGame$Board;", Cond.fieldLink RX3 36 "ParityGame$Plan" "zero" "I", Cond.fieldLink RX3 40 "ParityGame$Game" "places" "I", Cond.methodLink RX3 26 yX0_take, Cond.instanceMethod yX0_take, Cond.selects RX0 yX0_take yX0_take, Cond.initialized RX0, Cond.code yX0_take cX0_take 3 none, Cond.fieldLink RX0 21 "ParityGame$Game" "places" "I", Cond.fieldLink RX0 27 "ParityGame$Board" "places" "I", Cond.fieldLink RX0 28 "ParityGame$Board" "all" "I", Cond.fieldLink RX0 9 "ParityGame$Board" "owned" "[I", Cond.fieldLink RX0 31 "ParityGame$Game" "odd" "I", Cond.fieldLink RX0 15 "ParityGame$Board" "calling" "[I", Cond.fieldLink RX0 34 "ParityGame$Game" "calls" "[I"]
def wsX5_shareOf_r2 : List Cond := [Cond.fieldLink RX0 18 "ParityGame$Board" "next" "[I", Cond.fieldLink RX0 37 "ParityGame$Game" "moves" "I", Cond.fieldLink RX0 40 "ParityGame$Game" "from" "[I", Cond.fieldLink RX0 43 "ParityGame$Game" "to" "[I", Cond.methodLink RX0 46 yX0_join, Cond.instanceMethod yX0_join, Cond.selects RX0 yX0_join yX0_join, Cond.code yX0_join cX0_join 3 none, Cond.methodLink RX3 32 yX0_wonBy, Cond.instanceMethod yX0_wonBy, Cond.selects RX0 yX0_wonBy yX0_wonBy, Cond.code yX0_wonBy cX0_wonBy 5 (some .int), Cond.methodLink RX0 58 yX0_deadEnds, Cond.instanceMethod yX0_deadEnds, Cond.selects RX0 yX0_deadEnds yX0_deadEnds, Cond.code yX0_deadEnds cX0_deadEnds 3 (some .int), Cond.methodLink RX0 62 yX0_attract, Cond.instanceMethod yX0_attract, Cond.selects RX0 yX0_attract yX0_attract, Cond.code yX0_attract cX0_attract 7 (some .int), Cond.methodLink RX0 50 yX0_before, Cond.instanceMethod yX0_before, Cond.selects RX0 yX0_before yX0_before, Cond.code yX0_before cX0_before 10 (some .int)]
def wsX5_shareOf_r3 : List Cond := [Cond.methodLink RX0 66 yX0_wonEndless, Cond.static yX0_wonEndless, Cond.code yX0_wonEndless cX0_wonEndless 10 (some .int), Cond.methodLink RX0 70 yX0_greatestCall, Cond.instanceMethod yX0_greatestCall, Cond.selects RX0 yX0_greatestCall yX0_greatestCall, Cond.code yX0_greatestCall cX0_greatestCall 4 (some .int), Cond.methodLink RX5 129 yJ6_bitCount_0f7a4, Cond.static yJ6_bitCount_0f7a4, Cond.initialized RJ6, Cond.code yJ6_bitCount_0f7a4 cJ6_bitCount_0f7a4 1 (some .int), Cond.constant RJ6 265 (1431655765), Cond.constant RJ6 266 (858993459), Cond.constant RJ6 267 (252645135)]
def wsX5_shareOf : List Cond := .code yX5_shareOf cX5_shareOf 2 (some .float) :: ((wsX5_shareOf_r1 ++ (wsX5_shareOf_r2 ++ wsX5_shareOf_r3)) ++ wsX50 ++ wsX10 ++ wsX30 ++ wsX00)
def wsX5_wonShare_r1 : List Cond := [Cond.methodLink RX5 195 yX5_needPlayer, Cond.static yX5_needPlayer, Cond.initialized RX5, Cond.code yX5_needPlayer cX5_needPlayer 1 none, Cond.classLink RX5 92 "java/lang/IllegalArgumentException", Cond.initialized "java/lang/IllegalArgumentException", Cond.methodLink RX5 202 yX5_shareOf, Cond.instanceMethod yX5_shareOf, Cond.selects RX5 yX5_shareOf yX5_shareOf, Cond.code yX5_shareOf cX5_shareOf 2 (some .float), Cond.fieldLink RX5 56 "ParityGame" "plan" "LParityGame$Plan;", Cond.fieldLink RX5 12 "ParityGame" "game" "LParityGame$Game;", Cond.fieldLink RX5 114 "ParityGame$Game" "places" "I", Cond.methodLink RX5 198 yX3_wonBy, Cond.instanceMethod yX3_wonBy, Cond.selects RX3 yX3_wonBy yX3_wonBy, Cond.initialized RX3, Cond.code yX3_wonBy cX3_wonBy 3 (some .int), Cond.fieldLink RX3 19 "ParityGame$Plan" "zeroKnown" "Z", Cond.fieldLink RX3 15 "ParityGame$Plan" "board" "LParityGame$Board;", Cond.fieldLink RX3 36 "ParityGame$Plan" "zero" "I", Cond.fieldLink RX3 40 "ParityGame$Game" "places" "I", Cond.methodLink RX3 26 yX0_take, Cond.instanceMethod yX0_take]
def wsX5_wonShare_r2 : List Cond := [Cond.selects RX0 yX0_take yX0_take, Cond.initialized RX0, Cond.code yX0_take cX0_take 3 none, Cond.fieldLink RX0 21 "ParityGame$Game" "places" "I", Cond.fieldLink RX0 27 "ParityGame$Board" "places" "I", Cond.fieldLink RX0 28 "ParityGame$Board" "all" "I", Cond.fieldLink RX0 9 "ParityGame$Board" "owned" "[I", Cond.fieldLink RX0 31 "ParityGame$Game" "odd" "I", Cond.fieldLink RX0 15 "ParityGame$Board" "calling" "[I", Cond.fieldLink RX0 34 "ParityGame$Game" "calls" "[I", Cond.fieldLink RX0 18 "ParityGame$Board" "next" "[I", Cond.fieldLink RX0 37 "ParityGame$Game" "moves" "I", Cond.fieldLink RX0 40 "ParityGame$Game" "from" "[I", Cond.fieldLink RX0 43 "ParityGame$Game" "to" "[I", Cond.methodLink RX0 46 yX0_join, Cond.instanceMethod yX0_join, Cond.selects RX0 yX0_join yX0_join, Cond.code yX0_join cX0_join 3 none, Cond.methodLink RX3 32 yX0_wonBy, Cond.instanceMethod yX0_wonBy, Cond.selects RX0 yX0_wonBy yX0_wonBy, Cond.code yX0_wonBy cX0_wonBy 5 (some .int), Cond.methodLink RX0 58 yX0_deadEnds, Cond.instanceMethod yX0_deadEnds]
def wsX5_wonShare_r3 : List Cond := [Cond.selects RX0 yX0_deadEnds yX0_deadEnds, Cond.code yX0_deadEnds cX0_deadEnds 3 (some .int), Cond.methodLink RX0 62 yX0_attract, Cond.instanceMethod yX0_attract, Cond.selects RX0 yX0_attract yX0_attract, Cond.code yX0_attract cX0_attract 7 (some .int), Cond.methodLink RX0 50 yX0_before, Cond.instanceMethod yX0_before, Cond.selects RX0 yX0_before yX0_before, Cond.code yX0_before cX0_before 10 (some .int), Cond.methodLink RX0 66 yX0_wonEndless, Cond.static yX0_wonEndless, Cond.code yX0_wonEndless cX0_wonEndless 10 (some .int), Cond.methodLink RX0 70 yX0_greatestCall, Cond.instanceMethod yX0_greatestCall, Cond.selects RX0 yX0_greatestCall yX0_greatestCall, Cond.code yX0_greatestCall cX0_greatestCall 4 (some .int), Cond.methodLink RX5 129 yJ6_bitCount_0f7a4, Cond.static yJ6_bitCount_0f7a4, Cond.initialized RJ6, Cond.code yJ6_bitCount_0f7a4 cJ6_bitCount_0f7a4 1 (some .int), Cond.constant RJ6 265 (1431655765), Cond.constant RJ6 266 (858993459), Cond.constant RJ6 267 (252645135)]
def wsX5_wonShare : List Cond := .code yX5_wonShare cX5_wonShare 2 (some .float) :: ((wsX5_wonShare_r1 ++ (wsX5_wonShare_r2 ++ wsX5_wonShare_r3)) ++ wsX50 ++ wsX10 ++ wsX30 ++ wsX00 ++ (vx_atS RX5 96 "java/lang/IllegalArgumentException" ["java/lang/RuntimeException", "java/lang/Exception"]).filter goodWord)
def wsX5_plan_r1 : List Cond := [Cond.fieldLink RX5 56 "ParityGame" "plan" "LParityGame$Plan;", Cond.fieldLink RX5 12 "ParityGame" "game" "LParityGame$Game;", Cond.fieldLink RX5 217 "ParityGame$Plan" "chosen" "[I", Cond.methodLink RX5 156 yX5_needPlace, Cond.instanceMethod yX5_needPlace, Cond.selects RX5 yX5_needPlace yX5_needPlace, Cond.initialized RX5, Cond.code yX5_needPlace cX5_needPlace 2 none, Cond.classLink RX5 330 "java/util/NoSuchElementException", Cond.initialized "java/util/NoSuchElementException", Cond.methodLink RX5 327 yX1_hasPlace, Cond.instanceMethod yX1_hasPlace, Cond.selects RX1 yX1_hasPlace yX1_hasPlace, Cond.initialized RX1, Cond.code yX1_hasPlace cX1_hasPlace 2 (some .boolean), Cond.fieldLink RX1 24 "ParityGame$Game" "places" "I", Cond.methodLink RX5 214 yX3_choose, Cond.instanceMethod yX3_choose, Cond.selects RX3 yX3_choose yX3_choose, Cond.initialized RX3, Cond.code yX3_choose cX3_choose 5 none, Cond.fieldLink RX3 23 "ParityGame$Plan" "chosenKnown" "Z", Cond.fieldLink RX3 15 "ParityGame$Plan" "board" "LParityGame$Board;", Cond.fieldLink RX3 40 "ParityGame$Game" "places" "I"]
def wsX5_plan_r2 : List Cond := [Cond.fieldLink RX3 9 "ParityGame$Plan" "chosen" "[I", Cond.methodLink RX3 45 yX3_wonBy, Cond.instanceMethod yX3_wonBy, Cond.selects RX3 yX3_wonBy yX3_wonBy, Cond.code yX3_wonBy cX3_wonBy 3 (some .int), Cond.fieldLink RX3 19 "ParityGame$Plan" "zeroKnown" "Z", Cond.fieldLink RX3 36 "ParityGame$Plan" "zero" "I", Cond.methodLink RX3 26 yX0_take, Cond.instanceMethod yX0_take, Cond.selects RX0 yX0_take yX0_take, Cond.initialized RX0, Cond.code yX0_take cX0_take 3 none, Cond.fieldLink RX0 21 "ParityGame$Game" "places" "I", Cond.fieldLink RX0 27 "ParityGame$Board" "places" "I", Cond.fieldLink RX0 28 "ParityGame$Board" "all" "I", Cond.fieldLink RX0 9 "ParityGame$Board" "owned" "[I", Cond.fieldLink RX0 31 "ParityGame$Game" "odd" "I", Cond.fieldLink RX0 15 "ParityGame$Board" "calling" "[I", Cond.fieldLink RX0 34 "ParityGame$Game" "calls" "[I", Cond.fieldLink RX0 18 "ParityGame$Board" "next" "[I", Cond.fieldLink RX0 37 "ParityGame$Game" "moves" "I", Cond.fieldLink RX0 40 "ParityGame$Game" "from" "[I", Cond.fieldLink RX0 43 "ParityGame$Game" "to" "[I", Cond.methodLink RX0 46 yX0_join]
def wsX5_plan_r3 : List Cond := [Cond.instanceMethod yX0_join, Cond.selects RX0 yX0_join yX0_join, Cond.code yX0_join cX0_join 3 none, Cond.methodLink RX3 32 yX0_wonBy, Cond.instanceMethod yX0_wonBy, Cond.selects RX0 yX0_wonBy yX0_wonBy, Cond.code yX0_wonBy cX0_wonBy 5 (some .int), Cond.methodLink RX0 58 yX0_deadEnds, Cond.instanceMethod yX0_deadEnds, Cond.selects RX0 yX0_deadEnds yX0_deadEnds, Cond.code yX0_deadEnds cX0_deadEnds 3 (some .int), Cond.methodLink RX0 62 yX0_attract, Cond.instanceMethod yX0_attract, Cond.selects RX0 yX0_attract yX0_attract, Cond.code yX0_attract cX0_attract 7 (some .int), Cond.methodLink RX0 50 yX0_before, Cond.instanceMethod yX0_before, Cond.selects RX0 yX0_before yX0_before, Cond.code yX0_before cX0_before 10 (some .int), Cond.methodLink RX0 66 yX0_wonEndless, Cond.static yX0_wonEndless, Cond.code yX0_wonEndless cX0_wonEndless 10 (some .int), Cond.methodLink RX0 70 yX0_greatestCall, Cond.instanceMethod yX0_greatestCall]
def wsX5_plan_r4 : List Cond := [Cond.selects RX0 yX0_greatestCall yX0_greatestCall, Cond.code yX0_greatestCall cX0_greatestCall 4 (some .int), Cond.methodLink RX3 48 yX1_ownerOf, Cond.instanceMethod yX1_ownerOf, Cond.selects RX1 yX1_ownerOf yX1_ownerOf, Cond.code yX1_ownerOf cX1_ownerOf 2 (some .int), Cond.fieldLink RX1 28 "ParityGame$Game" "odd" "I", Cond.static yX5_has, Cond.code yX5_has cX5_has 2 (some .boolean), Cond.methodLink RX3 55 yX3_winningMove, Cond.instanceMethod yX3_winningMove, Cond.selects RX3 yX3_winningMove yX3_winningMove, Cond.code yX3_winningMove cX3_winningMove 6 (some .int), Cond.fieldLink RX3 62 "ParityGame$Game" "moves" "I", Cond.fieldLink RX3 65 "ParityGame$Game" "from" "[I", Cond.fieldLink RX3 68 "ParityGame$Game" "to" "[I", Cond.fieldLink RX3 71 "ParityGame$Board" "next" "[I", Cond.methodLink RX3 59 yX1_firstMove, Cond.instanceMethod yX1_firstMove, Cond.selects RX1 yX1_firstMove yX1_firstMove, Cond.code yX1_firstMove cX1_firstMove 3 (some .int), Cond.fieldLink RX1 31 "ParityGame$Game" "moves" "I", Cond.fieldLink RX1 15 "ParityGame$Game" "from" "[I"]
def wsX5_plan : List Cond := .code yX5_plan cX5_plan 2 (some .int) :: ((wsX5_plan_r1 ++ (wsX5_plan_r2 ++ (wsX5_plan_r3 ++ wsX5_plan_r4))) ++ wsX50 ++ wsX30 ++ wsX10 ++ wsX00 ++ (vx_atS RX5 334 "java/util/NoSuchElementException" ["java/lang/RuntimeException", "java/lang/Exception"]).filter goodWord)
def wsX5_follow_r1 : List Cond := [Cond.classLink RX5 92 "java/lang/IllegalArgumentException", Cond.initialized "java/lang/IllegalArgumentException", Cond.fieldLink RX5 56 "ParityGame" "plan" "LParityGame$Plan;", Cond.fieldLink RX5 12 "ParityGame" "game" "LParityGame$Game;", Cond.fieldLink RX5 217 "ParityGame$Plan" "chosen" "[I", Cond.fieldLink RX5 182 "ParityGame$Game" "to" "[I", Cond.methodLink RX5 156 yX5_needPlace, Cond.instanceMethod yX5_needPlace, Cond.selects RX5 yX5_needPlace yX5_needPlace, Cond.initialized RX5, Cond.code yX5_needPlace cX5_needPlace 2 none, Cond.classLink RX5 330 "java/util/NoSuchElementException", Cond.initialized "java/util/NoSuchElementException", Cond.methodLink RX5 327 yX1_hasPlace, Cond.instanceMethod yX1_hasPlace, Cond.selects RX1 yX1_hasPlace yX1_hasPlace, Cond.initialized RX1, Cond.code yX1_hasPlace cX1_hasPlace 2 (some .boolean), Cond.fieldLink RX1 24 "ParityGame$Game" "places" "I", Cond.methodLink RX5 214 yX3_choose, Cond.instanceMethod yX3_choose, Cond.selects RX3 yX3_choose yX3_choose, Cond.initialized RX3, Cond.code yX3_choose cX3_choose 5 none]
def wsX5_follow_r2 : List Cond := [Cond.fieldLink RX3 23 "ParityGame$Plan" "chosenKnown" "Z", Cond.fieldLink RX3 15 "ParityGame$Plan" "board" "LParityGame$Board;", Cond.fieldLink RX3 40 "ParityGame$Game" "places" "I", Cond.fieldLink RX3 9 "ParityGame$Plan" "chosen" "[I", Cond.methodLink RX3 45 yX3_wonBy, Cond.instanceMethod yX3_wonBy, Cond.selects RX3 yX3_wonBy yX3_wonBy, Cond.code yX3_wonBy cX3_wonBy 3 (some .int), Cond.fieldLink RX3 19 "ParityGame$Plan" "zeroKnown" "Z", Cond.fieldLink RX3 36 "ParityGame$Plan" "zero" "I", Cond.methodLink RX3 26 yX0_take, Cond.instanceMethod yX0_take, Cond.selects RX0 yX0_take yX0_take, Cond.initialized RX0, Cond.code yX0_take cX0_take 3 none, Cond.fieldLink RX0 21 "ParityGame$Game" "places" "I", Cond.fieldLink RX0 27 "ParityGame$Board" "places" "I", Cond.fieldLink RX0 28 "ParityGame$Board" "all" "I", Cond.fieldLink RX0 9 "ParityGame$Board" "owned" "[I", Cond.fieldLink RX0 31 "ParityGame$Game" "odd" "I", Cond.fieldLink RX0 15 "ParityGame$Board" "calling" "[I", Cond.fieldLink RX0 34 "ParityGame$Game" "calls" "[I", Cond.fieldLink RX0 18 "ParityGame$Board" "next" "[I", Cond.fieldLink RX0 37 "ParityGame$Game" "moves" "I"]
def wsX5_follow_r3 : List Cond := [Cond.fieldLink RX0 40 "ParityGame$Game" "from" "[I", Cond.fieldLink RX0 43 "ParityGame$Game" "to" "[I", Cond.methodLink RX0 46 yX0_join, Cond.instanceMethod yX0_join, Cond.selects RX0 yX0_join yX0_join, Cond.code yX0_join cX0_join 3 none, Cond.methodLink RX3 32 yX0_wonBy, Cond.instanceMethod yX0_wonBy, Cond.selects RX0 yX0_wonBy yX0_wonBy, Cond.code yX0_wonBy cX0_wonBy 5 (some .int), Cond.methodLink RX0 58 yX0_deadEnds, Cond.instanceMethod yX0_deadEnds, Cond.selects RX0 yX0_deadEnds yX0_deadEnds, Cond.code yX0_deadEnds cX0_deadEnds 3 (some .int), Cond.methodLink RX0 62 yX0_attract, Cond.instanceMethod yX0_attract, Cond.selects RX0 yX0_attract yX0_attract, Cond.code yX0_attract cX0_attract 7 (some .int), Cond.methodLink RX0 50 yX0_before, Cond.instanceMethod yX0_before, Cond.selects RX0 yX0_before yX0_before, Cond.code yX0_before cX0_before 10 (some .int), Cond.methodLink RX0 66 yX0_wonEndless, Cond.static yX0_wonEndless]
def wsX5_follow_r4 : List Cond := [Cond.code yX0_wonEndless cX0_wonEndless 10 (some .int), Cond.methodLink RX0 70 yX0_greatestCall, Cond.instanceMethod yX0_greatestCall, Cond.selects RX0 yX0_greatestCall yX0_greatestCall, Cond.code yX0_greatestCall cX0_greatestCall 4 (some .int), Cond.methodLink RX3 48 yX1_ownerOf, Cond.instanceMethod yX1_ownerOf, Cond.selects RX1 yX1_ownerOf yX1_ownerOf, Cond.code yX1_ownerOf cX1_ownerOf 2 (some .int), Cond.fieldLink RX1 28 "ParityGame$Game" "odd" "I", Cond.static yX5_has, Cond.code yX5_has cX5_has 2 (some .boolean), Cond.methodLink RX3 55 yX3_winningMove, Cond.instanceMethod yX3_winningMove, Cond.selects RX3 yX3_winningMove yX3_winningMove, Cond.code yX3_winningMove cX3_winningMove 6 (some .int), Cond.fieldLink RX3 62 "ParityGame$Game" "moves" "I", Cond.fieldLink RX3 65 "ParityGame$Game" "from" "[I", Cond.fieldLink RX3 68 "ParityGame$Game" "to" "[I", Cond.fieldLink RX3 71 "ParityGame$Board" "next" "[I", Cond.methodLink RX3 59 yX1_firstMove, Cond.instanceMethod yX1_firstMove, Cond.selects RX1 yX1_firstMove yX1_firstMove, Cond.code yX1_firstMove cX1_firstMove 3 (some .int)]
def wsX5_follow_r5 : List Cond := [Cond.fieldLink RX1 31 "ParityGame$Game" "moves" "I", Cond.fieldLink RX1 15 "ParityGame$Game" "from" "[I"]
def wsX5_follow : List Cond := .code yX5_follow cX5_follow 6 (some .int) :: ((wsX5_follow_r1 ++ (wsX5_follow_r2 ++ (wsX5_follow_r3 ++ (wsX5_follow_r4 ++ wsX5_follow_r5)))) ++ wsX50 ++ wsX30 ++ wsX10 ++ wsX00 ++ (vx_atS RX5 96 "java/lang/IllegalArgumentException" ["java/lang/RuntimeException", "java/lang/Exception"]).filter goodWord ++ (vx_atS RX5 334 "java/util/NoSuchElementException" ["java/lang/RuntimeException", "java/lang/Exception"]).filter goodWord)
def wsX5_lastOfPlay : List Cond := .code yX5_lastOfPlay cX5_lastOfPlay 4 (some .int) :: ([.fieldLink RX5 60 "ParityGame" "seenAt" "[I", .fieldLink RX5 56 "ParityGame" "plan" "LParityGame$Plan;", .fieldLink RX5 217 "ParityGame$Plan" "chosen" "[I", .fieldLink RX5 12 "ParityGame" "game" "LParityGame$Game;", .fieldLink RX5 182 "ParityGame$Game" "to" "[I"] ++ wsX50 ++ wsX30 ++ wsX10)
def wsX5_greatestCallSince : List Cond := .code yX5_greatestCallSince cX5_greatestCallSince 4 (some .int) :: ([.fieldLink RX5 12 "ParityGame" "game" "LParityGame$Game;", .fieldLink RX5 114 "ParityGame$Game" "places" "I", .fieldLink RX5 60 "ParityGame" "seenAt" "[I", .fieldLink RX5 162 "ParityGame$Game" "calls" "[I", .methodLink RX5 349 Lib.Math.max.name, .static Lib.Math.max.name, .initialized "java/lang/Math", .code Lib.Math.max.name Lib.Math.max.code 2 (some .int)] ++ wsX50 ++ wsX10)
def wsX5_placesSeen : List Cond := .code yX5_placesSeen cX5_placesSeen 3 (some .int) :: ([.fieldLink RX5 12 "ParityGame" "game" "LParityGame$Game;", .fieldLink RX5 114 "ParityGame$Game" "places" "I", .fieldLink RX5 60 "ParityGame" "seenAt" "[I"] ++ wsX50 ++ wsX10)
def wsX5_play_r1 : List Cond := [Cond.classLink RX5 92 "java/lang/IllegalArgumentException", Cond.initialized "java/lang/IllegalArgumentException", Cond.fieldLink RX5 56 "ParityGame" "plan" "LParityGame$Plan;", Cond.fieldLink RX5 12 "ParityGame" "game" "LParityGame$Game;", Cond.fieldLink RX5 217 "ParityGame$Plan" "chosen" "[I", Cond.fieldLink RX5 60 "ParityGame" "seenAt" "[I", Cond.methodLink RX5 156 yX5_needPlace, Cond.instanceMethod yX5_needPlace, Cond.selects RX5 yX5_needPlace yX5_needPlace, Cond.initialized RX5, Cond.code yX5_needPlace cX5_needPlace 2 none, Cond.classLink RX5 330 "java/util/NoSuchElementException", Cond.initialized "java/util/NoSuchElementException", Cond.methodLink RX5 327 yX1_hasPlace, Cond.instanceMethod yX1_hasPlace, Cond.selects RX1 yX1_hasPlace yX1_hasPlace, Cond.initialized RX1, Cond.code yX1_hasPlace cX1_hasPlace 2 (some .boolean), Cond.fieldLink RX1 24 "ParityGame$Game" "places" "I", Cond.methodLink RX5 214 yX3_choose, Cond.instanceMethod yX3_choose, Cond.selects RX3 yX3_choose yX3_choose, Cond.initialized RX3, Cond.code yX3_choose cX3_choose 5 none]
def wsX5_play_r2 : List Cond := [Cond.fieldLink RX3 23 "ParityGame$Plan" "chosenKnown" "Z", Cond.fieldLink RX3 15 "ParityGame$Plan" "board" "LParityGame$Board;", Cond.fieldLink RX3 40 "ParityGame$Game" "places" "I", Cond.fieldLink RX3 9 "ParityGame$Plan" "chosen" "[I", Cond.methodLink RX3 45 yX3_wonBy, Cond.instanceMethod yX3_wonBy, Cond.selects RX3 yX3_wonBy yX3_wonBy, Cond.code yX3_wonBy cX3_wonBy 3 (some .int), Cond.fieldLink RX3 19 "ParityGame$Plan" "zeroKnown" "Z", Cond.fieldLink RX3 36 "ParityGame$Plan" "zero" "I", Cond.methodLink RX3 26 yX0_take, Cond.instanceMethod yX0_take, Cond.selects RX0 yX0_take yX0_take, Cond.initialized RX0, Cond.code yX0_take cX0_take 3 none, Cond.fieldLink RX0 21 "ParityGame$Game" "places" "I", Cond.fieldLink RX0 27 "ParityGame$Board" "places" "I", Cond.fieldLink RX0 28 "ParityGame$Board" "all" "I", Cond.fieldLink RX0 9 "ParityGame$Board" "owned" "[I", Cond.fieldLink RX0 31 "ParityGame$Game" "odd" "I", Cond.fieldLink RX0 15 "ParityGame$Board" "calling" "[I", Cond.fieldLink RX0 34 "ParityGame$Game" "calls" "[I", Cond.fieldLink RX0 18 "ParityGame$Board" "next" "[I", Cond.fieldLink RX0 37 "ParityGame$Game" "moves" "I"]
def wsX5_play_r3 : List Cond := [Cond.fieldLink RX0 40 "ParityGame$Game" "from" "[I", Cond.fieldLink RX0 43 "ParityGame$Game" "to" "[I", Cond.methodLink RX0 46 yX0_join, Cond.instanceMethod yX0_join, Cond.selects RX0 yX0_join yX0_join, Cond.code yX0_join cX0_join 3 none, Cond.methodLink RX3 32 yX0_wonBy, Cond.instanceMethod yX0_wonBy, Cond.selects RX0 yX0_wonBy yX0_wonBy, Cond.code yX0_wonBy cX0_wonBy 5 (some .int), Cond.methodLink RX0 58 yX0_deadEnds, Cond.instanceMethod yX0_deadEnds, Cond.selects RX0 yX0_deadEnds yX0_deadEnds, Cond.code yX0_deadEnds cX0_deadEnds 3 (some .int), Cond.methodLink RX0 62 yX0_attract, Cond.instanceMethod yX0_attract, Cond.selects RX0 yX0_attract yX0_attract, Cond.code yX0_attract cX0_attract 7 (some .int), Cond.methodLink RX0 50 yX0_before, Cond.instanceMethod yX0_before, Cond.selects RX0 yX0_before yX0_before, Cond.code yX0_before cX0_before 10 (some .int), Cond.methodLink RX0 66 yX0_wonEndless, Cond.static yX0_wonEndless]
def wsX5_play_r4 : List Cond := [Cond.code yX0_wonEndless cX0_wonEndless 10 (some .int), Cond.methodLink RX0 70 yX0_greatestCall, Cond.instanceMethod yX0_greatestCall, Cond.selects RX0 yX0_greatestCall yX0_greatestCall, Cond.code yX0_greatestCall cX0_greatestCall 4 (some .int), Cond.methodLink RX3 48 yX1_ownerOf, Cond.instanceMethod yX1_ownerOf, Cond.selects RX1 yX1_ownerOf yX1_ownerOf, Cond.code yX1_ownerOf cX1_ownerOf 2 (some .int), Cond.fieldLink RX1 28 "ParityGame$Game" "odd" "I", Cond.static yX5_has, Cond.code yX5_has cX5_has 2 (some .boolean), Cond.methodLink RX3 55 yX3_winningMove, Cond.instanceMethod yX3_winningMove, Cond.selects RX3 yX3_winningMove yX3_winningMove, Cond.code yX3_winningMove cX3_winningMove 6 (some .int), Cond.fieldLink RX3 62 "ParityGame$Game" "moves" "I", Cond.fieldLink RX3 65 "ParityGame$Game" "from" "[I", Cond.fieldLink RX3 68 "ParityGame$Game" "to" "[I", Cond.fieldLink RX3 71 "ParityGame$Board" "next" "[I", Cond.methodLink RX3 59 yX1_firstMove, Cond.instanceMethod yX1_firstMove, Cond.selects RX1 yX1_firstMove yX1_firstMove, Cond.code yX1_firstMove cX1_firstMove 3 (some .int)]
def wsX5_play_r5 : List Cond := [Cond.fieldLink RX1 31 "ParityGame$Game" "moves" "I", Cond.fieldLink RX1 15 "ParityGame$Game" "from" "[I", Cond.methodLink RX5 222 yX5_lastOfPlay, Cond.instanceMethod yX5_lastOfPlay, Cond.selects RX5 yX5_lastOfPlay yX5_lastOfPlay, Cond.code yX5_lastOfPlay cX5_lastOfPlay 4 (some .int), Cond.fieldLink RX5 182 "ParityGame$Game" "to" "[I", Cond.methodLink RX5 225 yX5_greatestCallSince, Cond.instanceMethod yX5_greatestCallSince, Cond.selects RX5 yX5_greatestCallSince yX5_greatestCallSince, Cond.code yX5_greatestCallSince cX5_greatestCallSince 4 (some .int), Cond.fieldLink RX5 114 "ParityGame$Game" "places" "I", Cond.fieldLink RX5 162 "ParityGame$Game" "calls" "[I", Cond.methodLink RX5 349 Lib.Math.max.name, Cond.static Lib.Math.max.name, Cond.initialized "java/lang/Math", Cond.code Lib.Math.max.name Lib.Math.max.code 2 (some .int), Cond.methodLink RX5 228 yX5_placesSeen, Cond.instanceMethod yX5_placesSeen, Cond.selects RX5 yX5_placesSeen yX5_placesSeen, Cond.code yX5_placesSeen cX5_placesSeen 3 (some .int)]
def wsX5_play : List Cond := .code yX5_play cX5_play 6 (some .int) :: ((wsX5_play_r1 ++ (wsX5_play_r2 ++ (wsX5_play_r3 ++ (wsX5_play_r4 ++ wsX5_play_r5)))) ++ wsX50 ++ wsX30 ++ wsX10 ++ wsX00 ++ (vx_atS RX5 96 "java/lang/IllegalArgumentException" ["java/lang/RuntimeException", "java/lang/Exception"]).filter goodWord ++ (vx_atS RX5 334 "java/util/NoSuchElementException" ["java/lang/RuntimeException", "java/lang/Exception"]).filter goodWord)
def wsX5_needSet : List Cond := .code yX5_needSet cX5_needSet 2 none :: ([.classLink RX5 92 "java/lang/IllegalArgumentException", .initialized "java/lang/IllegalArgumentException", .fieldLink RX5 12 "ParityGame" "game" "LParityGame$Game;", .fieldLink RX5 114 "ParityGame$Game" "places" "I"] ++ wsX50 ++ wsX10 ++ (vx_atS RX5 96 "java/lang/IllegalArgumentException" ["java/lang/RuntimeException", "java/lang/Exception"]).filter goodWord)
def wsX5_pull_r1 : List Cond := [Cond.fieldLink RX5 47 "ParityGame" "board" "LParityGame$Board;", Cond.fieldLink RX5 12 "ParityGame" "game" "LParityGame$Game;", Cond.fieldLink RX5 234 "ParityGame$Board" "all" "I", Cond.methodLink RX5 195 yX5_needPlayer, Cond.static yX5_needPlayer, Cond.initialized RX5, Cond.code yX5_needPlayer cX5_needPlayer 1 none, Cond.classLink RX5 92 "java/lang/IllegalArgumentException", Cond.initialized "java/lang/IllegalArgumentException", Cond.methodLink RX5 231 yX5_needSet, Cond.instanceMethod yX5_needSet, Cond.selects RX5 yX5_needSet yX5_needSet, Cond.code yX5_needSet cX5_needSet 2 none, Cond.fieldLink RX5 114 "ParityGame$Game" "places" "I", Cond.methodLink RX5 135 yX0_take, Cond.instanceMethod yX0_take, Cond.selects RX0 yX0_take yX0_take, Cond.initialized RX0, Cond.code yX0_take cX0_take 3 none, Cond.fieldLink RX0 21 "ParityGame$Game" "places" "I", Cond.fieldLink RX0 27 "ParityGame$Board" "places" "I", Cond.fieldLink RX0 28 "ParityGame$Board" "all" "I", Cond.fieldLink RX0 9 "ParityGame$Board" "owned" "[I", Cond.fieldLink RX0 31 "ParityGame$Game" "odd" "I"]
def wsX5_pull_r2 : List Cond := [Cond.fieldLink RX0 15 "ParityGame$Board" "calling" "[I", Cond.fieldLink RX0 34 "ParityGame$Game" "calls" "[I", Cond.fieldLink RX0 18 "ParityGame$Board" "next" "[I", Cond.fieldLink RX0 37 "ParityGame$Game" "moves" "I", Cond.fieldLink RX0 40 "ParityGame$Game" "from" "[I", Cond.fieldLink RX0 43 "ParityGame$Game" "to" "[I", Cond.methodLink RX0 46 yX0_join, Cond.instanceMethod yX0_join, Cond.selects RX0 yX0_join yX0_join, Cond.code yX0_join cX0_join 3 none, Cond.methodLink RX5 237 yX0_attract, Cond.instanceMethod yX0_attract, Cond.selects RX0 yX0_attract yX0_attract, Cond.code yX0_attract cX0_attract 7 (some .int), Cond.methodLink RX0 50 yX0_before, Cond.instanceMethod yX0_before, Cond.selects RX0 yX0_before yX0_before, Cond.code yX0_before cX0_before 10 (some .int)]
def wsX5_pull : List Cond := .code yX5_pull cX5_pull 3 (some .int) :: ((wsX5_pull_r1 ++ wsX5_pull_r2) ++ wsX50 ++ wsX00 ++ wsX10 ++ (vx_atS RX5 96 "java/lang/IllegalArgumentException" ["java/lang/RuntimeException", "java/lang/Exception"]).filter goodWord)
def wsX5_pullIn_r1 : List Cond := [Cond.fieldLink RX5 47 "ParityGame" "board" "LParityGame$Board;", Cond.fieldLink RX5 12 "ParityGame" "game" "LParityGame$Game;", Cond.methodLink RX5 156 yX5_needPlace, Cond.instanceMethod yX5_needPlace, Cond.selects RX5 yX5_needPlace yX5_needPlace, Cond.initialized RX5, Cond.code yX5_needPlace cX5_needPlace 2 none, Cond.classLink RX5 330 "java/util/NoSuchElementException", Cond.initialized "java/util/NoSuchElementException", Cond.methodLink RX5 327 yX1_hasPlace, Cond.instanceMethod yX1_hasPlace, Cond.selects RX1 yX1_hasPlace yX1_hasPlace, Cond.initialized RX1, Cond.code yX1_hasPlace cX1_hasPlace 2 (some .boolean), Cond.fieldLink RX1 24 "ParityGame$Game" "places" "I", Cond.methodLink RX5 195 yX5_needPlayer, Cond.static yX5_needPlayer, Cond.code yX5_needPlayer cX5_needPlayer 1 none, Cond.classLink RX5 92 "java/lang/IllegalArgumentException", Cond.initialized "java/lang/IllegalArgumentException", Cond.methodLink RX5 231 yX5_needSet, Cond.instanceMethod yX5_needSet, Cond.selects RX5 yX5_needSet yX5_needSet, Cond.code yX5_needSet cX5_needSet 2 none]
def wsX5_pullIn_r2 : List Cond := [Cond.fieldLink RX5 114 "ParityGame$Game" "places" "I", Cond.methodLink RX5 135 yX0_take, Cond.instanceMethod yX0_take, Cond.selects RX0 yX0_take yX0_take, Cond.initialized RX0, Cond.code yX0_take cX0_take 3 none, Cond.fieldLink RX0 21 "ParityGame$Game" "places" "I", Cond.fieldLink RX0 27 "ParityGame$Board" "places" "I", Cond.fieldLink RX0 28 "ParityGame$Board" "all" "I", Cond.fieldLink RX0 9 "ParityGame$Board" "owned" "[I", Cond.fieldLink RX0 31 "ParityGame$Game" "odd" "I", Cond.fieldLink RX0 15 "ParityGame$Board" "calling" "[I", Cond.fieldLink RX0 34 "ParityGame$Game" "calls" "[I", Cond.fieldLink RX0 18 "ParityGame$Board" "next" "[I", Cond.fieldLink RX0 37 "ParityGame$Game" "moves" "I", Cond.fieldLink RX0 40 "ParityGame$Game" "from" "[I", Cond.fieldLink RX0 43 "ParityGame$Game" "to" "[I", Cond.methodLink RX0 46 yX0_join, Cond.instanceMethod yX0_join, Cond.selects RX0 yX0_join yX0_join, Cond.code yX0_join cX0_join 3 none, Cond.methodLink RX5 241 yX0_distance, Cond.instanceMethod yX0_distance, Cond.selects RX0 yX0_distance yX0_distance]
def wsX5_pullIn_r3 : List Cond := [Cond.code yX0_distance cX0_distance 6 (some .int), Cond.static yX5_has, Cond.code yX5_has cX5_has 2 (some .boolean), Cond.methodLink RX0 50 yX0_before, Cond.instanceMethod yX0_before, Cond.selects RX0 yX0_before yX0_before, Cond.code yX0_before cX0_before 10 (some .int)]
def wsX5_pullIn : List Cond := .code yX5_pullIn cX5_pullIn 4 (some .int) :: ((wsX5_pullIn_r1 ++ (wsX5_pullIn_r2 ++ wsX5_pullIn_r3)) ++ wsX50 ++ wsX10 ++ wsX00 ++ (vx_atS RX5 334 "java/util/NoSuchElementException" ["java/lang/RuntimeException", "java/lang/Exception"]).filter goodWord ++ (vx_atS RX5 96 "java/lang/IllegalArgumentException" ["java/lang/RuntimeException", "java/lang/Exception"]).filter goodWord)
def wsX5_stay_r1 : List Cond := [Cond.fieldLink RX5 47 "ParityGame" "board" "LParityGame$Board;", Cond.fieldLink RX5 12 "ParityGame" "game" "LParityGame$Game;", Cond.methodLink RX5 195 yX5_needPlayer, Cond.static yX5_needPlayer, Cond.initialized RX5, Cond.code yX5_needPlayer cX5_needPlayer 1 none, Cond.classLink RX5 92 "java/lang/IllegalArgumentException", Cond.initialized "java/lang/IllegalArgumentException", Cond.methodLink RX5 231 yX5_needSet, Cond.instanceMethod yX5_needSet, Cond.selects RX5 yX5_needSet yX5_needSet, Cond.code yX5_needSet cX5_needSet 2 none, Cond.fieldLink RX5 114 "ParityGame$Game" "places" "I", Cond.methodLink RX5 135 yX0_take, Cond.instanceMethod yX0_take, Cond.selects RX0 yX0_take yX0_take, Cond.initialized RX0, Cond.code yX0_take cX0_take 3 none, Cond.fieldLink RX0 21 "ParityGame$Game" "places" "I", Cond.fieldLink RX0 27 "ParityGame$Board" "places" "I", Cond.fieldLink RX0 28 "ParityGame$Board" "all" "I", Cond.fieldLink RX0 9 "ParityGame$Board" "owned" "[I", Cond.fieldLink RX0 31 "ParityGame$Game" "odd" "I", Cond.fieldLink RX0 15 "ParityGame$Board" "calling" "[I"]
def wsX5_stay_r2 : List Cond := [Cond.fieldLink RX0 34 "ParityGame$Game" "calls" "[I", Cond.fieldLink RX0 18 "ParityGame$Board" "next" "[I", Cond.fieldLink RX0 37 "ParityGame$Game" "moves" "I", Cond.fieldLink RX0 40 "ParityGame$Game" "from" "[I", Cond.fieldLink RX0 43 "ParityGame$Game" "to" "[I", Cond.methodLink RX0 46 yX0_join, Cond.instanceMethod yX0_join, Cond.selects RX0 yX0_join yX0_join, Cond.code yX0_join cX0_join 3 none, Cond.methodLink RX5 244 yX0_stayingIn, Cond.instanceMethod yX0_stayingIn, Cond.selects RX0 yX0_stayingIn yX0_stayingIn, Cond.code yX0_stayingIn cX0_stayingIn 7 (some .int), Cond.methodLink RX0 58 yX0_deadEnds, Cond.instanceMethod yX0_deadEnds, Cond.selects RX0 yX0_deadEnds yX0_deadEnds, Cond.code yX0_deadEnds cX0_deadEnds 3 (some .int), Cond.methodLink RX0 50 yX0_before, Cond.instanceMethod yX0_before, Cond.selects RX0 yX0_before yX0_before, Cond.code yX0_before cX0_before 10 (some .int)]
def wsX5_stay : List Cond := .code yX5_stay cX5_stay 3 (some .int) :: ((wsX5_stay_r1 ++ wsX5_stay_r2) ++ wsX50 ++ wsX10 ++ wsX00 ++ (vx_atS RX5 96 "java/lang/IllegalArgumentException" ["java/lang/RuntimeException", "java/lang/Exception"]).filter goodWord)
def wsX5_comeBack_r1 : List Cond := [Cond.fieldLink RX5 47 "ParityGame" "board" "LParityGame$Board;", Cond.fieldLink RX5 12 "ParityGame" "game" "LParityGame$Game;", Cond.methodLink RX5 195 yX5_needPlayer, Cond.static yX5_needPlayer, Cond.initialized RX5, Cond.code yX5_needPlayer cX5_needPlayer 1 none, Cond.classLink RX5 92 "java/lang/IllegalArgumentException", Cond.initialized "java/lang/IllegalArgumentException", Cond.methodLink RX5 231 yX5_needSet, Cond.instanceMethod yX5_needSet, Cond.selects RX5 yX5_needSet yX5_needSet, Cond.code yX5_needSet cX5_needSet 2 none, Cond.fieldLink RX5 114 "ParityGame$Game" "places" "I", Cond.methodLink RX5 135 yX0_take, Cond.instanceMethod yX0_take, Cond.selects RX0 yX0_take yX0_take, Cond.initialized RX0, Cond.code yX0_take cX0_take 3 none, Cond.fieldLink RX0 21 "ParityGame$Game" "places" "I", Cond.fieldLink RX0 27 "ParityGame$Board" "places" "I", Cond.fieldLink RX0 28 "ParityGame$Board" "all" "I", Cond.fieldLink RX0 9 "ParityGame$Board" "owned" "[I", Cond.fieldLink RX0 31 "ParityGame$Game" "odd" "I", Cond.fieldLink RX0 15 "ParityGame$Board" "calling" "[I"]
def wsX5_comeBack_r2 : List Cond := [Cond.fieldLink RX0 34 "ParityGame$Game" "calls" "[I", Cond.fieldLink RX0 18 "ParityGame$Board" "next" "[I", Cond.fieldLink RX0 37 "ParityGame$Game" "moves" "I", Cond.fieldLink RX0 40 "ParityGame$Game" "from" "[I", Cond.fieldLink RX0 43 "ParityGame$Game" "to" "[I", Cond.methodLink RX0 46 yX0_join, Cond.instanceMethod yX0_join, Cond.selects RX0 yX0_join yX0_join, Cond.code yX0_join cX0_join 3 none, Cond.methodLink RX5 247 yX0_comingBackTo, Cond.instanceMethod yX0_comingBackTo, Cond.selects RX0 yX0_comingBackTo yX0_comingBackTo, Cond.code yX0_comingBackTo cX0_comingBackTo 7 (some .int), Cond.methodLink RX0 50 yX0_before, Cond.instanceMethod yX0_before, Cond.selects RX0 yX0_before yX0_before, Cond.code yX0_before cX0_before 10 (some .int), Cond.methodLink RX0 62 yX0_attract, Cond.instanceMethod yX0_attract, Cond.selects RX0 yX0_attract yX0_attract, Cond.code yX0_attract cX0_attract 7 (some .int)]
def wsX5_comeBack : List Cond := .code yX5_comeBack cX5_comeBack 3 (some .int) :: ((wsX5_comeBack_r1 ++ wsX5_comeBack_r2) ++ wsX50 ++ wsX10 ++ wsX00 ++ (vx_atS RX5 96 "java/lang/IllegalArgumentException" ["java/lang/RuntimeException", "java/lang/Exception"]).filter goodWord)
def wsX5_isTrap_r1 : List Cond := [Cond.fieldLink RX5 47 "ParityGame" "board" "LParityGame$Board;", Cond.fieldLink RX5 12 "ParityGame" "game" "LParityGame$Game;", Cond.methodLink RX5 195 yX5_needPlayer, Cond.static yX5_needPlayer, Cond.initialized RX5, Cond.code yX5_needPlayer cX5_needPlayer 1 none, Cond.classLink RX5 92 "java/lang/IllegalArgumentException", Cond.initialized "java/lang/IllegalArgumentException", Cond.methodLink RX5 231 yX5_needSet, Cond.instanceMethod yX5_needSet, Cond.selects RX5 yX5_needSet yX5_needSet, Cond.code yX5_needSet cX5_needSet 2 none, Cond.fieldLink RX5 114 "ParityGame$Game" "places" "I", Cond.methodLink RX5 135 yX0_take, Cond.instanceMethod yX0_take, Cond.selects RX0 yX0_take yX0_take, Cond.initialized RX0, Cond.code yX0_take cX0_take 3 none, Cond.fieldLink RX0 21 "ParityGame$Game" "places" "I", Cond.fieldLink RX0 27 "ParityGame$Board" "places" "I", Cond.fieldLink RX0 28 "ParityGame$Board" "all" "I", Cond.fieldLink RX0 9 "ParityGame$Board" "owned" "[I", Cond.fieldLink RX0 31 "ParityGame$Game" "odd" "I", Cond.fieldLink RX0 15 "ParityGame$Board" "calling" "[I"]
def wsX5_isTrap_r2 : List Cond := [Cond.fieldLink RX0 34 "ParityGame$Game" "calls" "[I", Cond.fieldLink RX0 18 "ParityGame$Board" "next" "[I", Cond.fieldLink RX0 37 "ParityGame$Game" "moves" "I", Cond.fieldLink RX0 40 "ParityGame$Game" "from" "[I", Cond.fieldLink RX0 43 "ParityGame$Game" "to" "[I", Cond.methodLink RX0 46 yX0_join, Cond.instanceMethod yX0_join, Cond.selects RX0 yX0_join yX0_join, Cond.code yX0_join cX0_join 3 none, Cond.methodLink RX5 250 yX0_isClosedFor, Cond.instanceMethod yX0_isClosedFor, Cond.selects RX0 yX0_isClosedFor yX0_isClosedFor, Cond.code yX0_isClosedFor cX0_isClosedFor 4 (some .boolean), Cond.methodLink RX0 50 yX0_before, Cond.instanceMethod yX0_before, Cond.selects RX0 yX0_before yX0_before, Cond.code yX0_before cX0_before 10 (some .int), Cond.methodLink RX0 58 yX0_deadEnds, Cond.instanceMethod yX0_deadEnds, Cond.selects RX0 yX0_deadEnds yX0_deadEnds, Cond.code yX0_deadEnds cX0_deadEnds 3 (some .int)]
def wsX5_isTrap : List Cond := .code yX5_isTrap cX5_isTrap 3 (some .boolean) :: ((wsX5_isTrap_r1 ++ wsX5_isTrap_r2) ++ wsX50 ++ wsX10 ++ wsX00 ++ (vx_atS RX5 96 "java/lang/IllegalArgumentException" ["java/lang/RuntimeException", "java/lang/Exception"]).filter goodWord)
def wsX5_wonIfCall_r1 : List Cond := [Cond.fieldLink RX5 47 "ParityGame" "board" "LParityGame$Board;", Cond.fieldLink RX5 12 "ParityGame" "game" "LParityGame$Game;", Cond.methodLink RX5 156 yX5_needPlace, Cond.instanceMethod yX5_needPlace, Cond.selects RX5 yX5_needPlace yX5_needPlace, Cond.initialized RX5, Cond.code yX5_needPlace cX5_needPlace 2 none, Cond.classLink RX5 330 "java/util/NoSuchElementException", Cond.initialized "java/util/NoSuchElementException", Cond.methodLink RX5 327 yX1_hasPlace, Cond.instanceMethod yX1_hasPlace, Cond.selects RX1 yX1_hasPlace yX1_hasPlace, Cond.initialized RX1, Cond.code yX1_hasPlace cX1_hasPlace 2 (some .boolean), Cond.fieldLink RX1 24 "ParityGame$Game" "places" "I", Cond.methodLink RX5 189 yX5_needCall, Cond.static yX5_needCall, Cond.code yX5_needCall cX5_needCall 1 none, Cond.classLink RX5 92 "java/lang/IllegalArgumentException", Cond.initialized "java/lang/IllegalArgumentException", Cond.methodLink RX5 135 yX0_take, Cond.instanceMethod yX0_take, Cond.selects RX0 yX0_take yX0_take, Cond.initialized RX0]
def wsX5_wonIfCall_r2 : List Cond := [Cond.code yX0_take cX0_take 3 none, Cond.fieldLink RX0 21 "ParityGame$Game" "places" "I", Cond.fieldLink RX0 27 "ParityGame$Board" "places" "I", Cond.fieldLink RX0 28 "ParityGame$Board" "all" "I", Cond.fieldLink RX0 9 "ParityGame$Board" "owned" "[I", Cond.fieldLink RX0 31 "ParityGame$Game" "odd" "I", Cond.fieldLink RX0 15 "ParityGame$Board" "calling" "[I", Cond.fieldLink RX0 34 "ParityGame$Game" "calls" "[I", Cond.fieldLink RX0 18 "ParityGame$Board" "next" "[I", Cond.fieldLink RX0 37 "ParityGame$Game" "moves" "I", Cond.fieldLink RX0 40 "ParityGame$Game" "from" "[I", Cond.fieldLink RX0 43 "ParityGame$Game" "to" "[I", Cond.methodLink RX0 46 yX0_join, Cond.instanceMethod yX0_join, Cond.selects RX0 yX0_join yX0_join, Cond.code yX0_join cX0_join 3 none, Cond.methodLink RX5 256 yX0_changeCall, Cond.instanceMethod yX0_changeCall, Cond.selects RX0 yX0_changeCall yX0_changeCall, Cond.code yX0_changeCall cX0_changeCall 4 none, Cond.methodLink RX5 259 yX0_wonBy, Cond.instanceMethod yX0_wonBy, Cond.selects RX0 yX0_wonBy yX0_wonBy, Cond.code yX0_wonBy cX0_wonBy 5 (some .int)]
def wsX5_wonIfCall_r3 : List Cond := [Cond.methodLink RX0 58 yX0_deadEnds, Cond.instanceMethod yX0_deadEnds, Cond.selects RX0 yX0_deadEnds yX0_deadEnds, Cond.code yX0_deadEnds cX0_deadEnds 3 (some .int), Cond.methodLink RX0 62 yX0_attract, Cond.instanceMethod yX0_attract, Cond.selects RX0 yX0_attract yX0_attract, Cond.code yX0_attract cX0_attract 7 (some .int), Cond.methodLink RX0 50 yX0_before, Cond.instanceMethod yX0_before, Cond.selects RX0 yX0_before yX0_before, Cond.code yX0_before cX0_before 10 (some .int), Cond.methodLink RX0 66 yX0_wonEndless, Cond.static yX0_wonEndless, Cond.code yX0_wonEndless cX0_wonEndless 10 (some .int), Cond.methodLink RX0 70 yX0_greatestCall, Cond.instanceMethod yX0_greatestCall, Cond.selects RX0 yX0_greatestCall yX0_greatestCall, Cond.code yX0_greatestCall cX0_greatestCall 4 (some .int)]
def wsX5_wonIfCall : List Cond := .code yX5_wonIfCall cX5_wonIfCall 3 (some .int) :: ((wsX5_wonIfCall_r1 ++ (wsX5_wonIfCall_r2 ++ wsX5_wonIfCall_r3)) ++ wsX50 ++ wsX10 ++ wsX00 ++ (vx_atS RX5 334 "java/util/NoSuchElementException" ["java/lang/RuntimeException", "java/lang/Exception"]).filter goodWord ++ (vx_atS RX5 96 "java/lang/IllegalArgumentException" ["java/lang/RuntimeException", "java/lang/Exception"]).filter goodWord)
def wsX5_wonIfOther_r1 : List Cond := [Cond.fieldLink RX5 47 "ParityGame" "board" "LParityGame$Board;", Cond.fieldLink RX5 12 "ParityGame" "game" "LParityGame$Game;", Cond.methodLink RX5 156 yX5_needPlace, Cond.instanceMethod yX5_needPlace, Cond.selects RX5 yX5_needPlace yX5_needPlace, Cond.initialized RX5, Cond.code yX5_needPlace cX5_needPlace 2 none, Cond.classLink RX5 330 "java/util/NoSuchElementException", Cond.initialized "java/util/NoSuchElementException", Cond.methodLink RX5 327 yX1_hasPlace, Cond.instanceMethod yX1_hasPlace, Cond.selects RX1 yX1_hasPlace yX1_hasPlace, Cond.initialized RX1, Cond.code yX1_hasPlace cX1_hasPlace 2 (some .boolean), Cond.fieldLink RX1 24 "ParityGame$Game" "places" "I", Cond.methodLink RX5 135 yX0_take, Cond.instanceMethod yX0_take, Cond.selects RX0 yX0_take yX0_take, Cond.initialized RX0, Cond.code yX0_take cX0_take 3 none, Cond.fieldLink RX0 21 "ParityGame$Game" "places" "I", Cond.fieldLink RX0 27 "ParityGame$Board" "places" "I", Cond.fieldLink RX0 28 "ParityGame$Board" "all" "I", Cond.fieldLink RX0 9 "ParityGame$Board" "owned" "[I"]
def wsX5_wonIfOther_r2 : List Cond := [Cond.fieldLink RX0 31 "ParityGame$Game" "odd" "I", Cond.fieldLink RX0 15 "ParityGame$Board" "calling" "[I", Cond.fieldLink RX0 34 "ParityGame$Game" "calls" "[I", Cond.fieldLink RX0 18 "ParityGame$Board" "next" "[I", Cond.fieldLink RX0 37 "ParityGame$Game" "moves" "I", Cond.fieldLink RX0 40 "ParityGame$Game" "from" "[I", Cond.fieldLink RX0 43 "ParityGame$Game" "to" "[I", Cond.methodLink RX0 46 yX0_join, Cond.instanceMethod yX0_join, Cond.selects RX0 yX0_join yX0_join, Cond.code yX0_join cX0_join 3 none, Cond.methodLink RX5 261 yX0_changeOwner, Cond.instanceMethod yX0_changeOwner, Cond.selects RX0 yX0_changeOwner yX0_changeOwner, Cond.code yX0_changeOwner cX0_changeOwner 2 none, Cond.methodLink RX5 259 yX0_wonBy, Cond.instanceMethod yX0_wonBy, Cond.selects RX0 yX0_wonBy yX0_wonBy, Cond.code yX0_wonBy cX0_wonBy 5 (some .int), Cond.methodLink RX0 58 yX0_deadEnds, Cond.instanceMethod yX0_deadEnds, Cond.selects RX0 yX0_deadEnds yX0_deadEnds, Cond.code yX0_deadEnds cX0_deadEnds 3 (some .int), Cond.methodLink RX0 62 yX0_attract]
def wsX5_wonIfOther_r3 : List Cond := [Cond.instanceMethod yX0_attract, Cond.selects RX0 yX0_attract yX0_attract, Cond.code yX0_attract cX0_attract 7 (some .int), Cond.methodLink RX0 50 yX0_before, Cond.instanceMethod yX0_before, Cond.selects RX0 yX0_before yX0_before, Cond.code yX0_before cX0_before 10 (some .int), Cond.methodLink RX0 66 yX0_wonEndless, Cond.static yX0_wonEndless, Cond.code yX0_wonEndless cX0_wonEndless 10 (some .int), Cond.methodLink RX0 70 yX0_greatestCall, Cond.instanceMethod yX0_greatestCall, Cond.selects RX0 yX0_greatestCall yX0_greatestCall, Cond.code yX0_greatestCall cX0_greatestCall 4 (some .int)]
def wsX5_wonIfOther : List Cond := .code yX5_wonIfOther cX5_wonIfOther 2 (some .int) :: ((wsX5_wonIfOther_r1 ++ (wsX5_wonIfOther_r2 ++ wsX5_wonIfOther_r3)) ++ wsX50 ++ wsX10 ++ wsX00 ++ (vx_atS RX5 334 "java/util/NoSuchElementException" ["java/lang/RuntimeException", "java/lang/Exception"]).filter goodWord)
def wsX5_wonWithout_r1 : List Cond := [Cond.fieldLink RX5 47 "ParityGame" "board" "LParityGame$Board;", Cond.fieldLink RX5 12 "ParityGame" "game" "LParityGame$Game;", Cond.fieldLink RX5 179 "ParityGame$Game" "from" "[I", Cond.fieldLink RX5 182 "ParityGame$Game" "to" "[I", Cond.methodLink RX5 174 yX5_needMove, Cond.instanceMethod yX5_needMove, Cond.selects RX5 yX5_needMove yX5_needMove, Cond.initialized RX5, Cond.code yX5_needMove cX5_needMove 2 none, Cond.classLink RX5 330 "java/util/NoSuchElementException", Cond.initialized "java/util/NoSuchElementException", Cond.fieldLink RX5 123 "ParityGame$Game" "moves" "I", Cond.methodLink RX5 135 yX0_take, Cond.instanceMethod yX0_take, Cond.selects RX0 yX0_take yX0_take, Cond.initialized RX0, Cond.code yX0_take cX0_take 3 none, Cond.fieldLink RX0 21 "ParityGame$Game" "places" "I", Cond.fieldLink RX0 27 "ParityGame$Board" "places" "I", Cond.fieldLink RX0 28 "ParityGame$Board" "all" "I", Cond.fieldLink RX0 9 "ParityGame$Board" "owned" "[I", Cond.fieldLink RX0 31 "ParityGame$Game" "odd" "I", Cond.fieldLink RX0 15 "ParityGame$Board" "calling" "[I", Cond.fieldLink RX0 34 "ParityGame$Game" "calls" "[I"]
def wsX5_wonWithout_r2 : List Cond := [Cond.fieldLink RX0 18 "ParityGame$Board" "next" "[I", Cond.fieldLink RX0 37 "ParityGame$Game" "moves" "I", Cond.fieldLink RX0 40 "ParityGame$Game" "from" "[I", Cond.fieldLink RX0 43 "ParityGame$Game" "to" "[I", Cond.methodLink RX0 46 yX0_join, Cond.instanceMethod yX0_join, Cond.selects RX0 yX0_join yX0_join, Cond.code yX0_join cX0_join 3 none, Cond.methodLink RX5 264 yX0_cut, Cond.instanceMethod yX0_cut, Cond.selects RX0 yX0_cut yX0_cut, Cond.code yX0_cut cX0_cut 3 none, Cond.methodLink RX5 259 yX0_wonBy, Cond.instanceMethod yX0_wonBy, Cond.selects RX0 yX0_wonBy yX0_wonBy, Cond.code yX0_wonBy cX0_wonBy 5 (some .int), Cond.methodLink RX0 58 yX0_deadEnds, Cond.instanceMethod yX0_deadEnds, Cond.selects RX0 yX0_deadEnds yX0_deadEnds, Cond.code yX0_deadEnds cX0_deadEnds 3 (some .int), Cond.methodLink RX0 62 yX0_attract, Cond.instanceMethod yX0_attract, Cond.selects RX0 yX0_attract yX0_attract, Cond.code yX0_attract cX0_attract 7 (some .int)]
def wsX5_wonWithout_r3 : List Cond := [Cond.methodLink RX0 50 yX0_before, Cond.instanceMethod yX0_before, Cond.selects RX0 yX0_before yX0_before, Cond.code yX0_before cX0_before 10 (some .int), Cond.methodLink RX0 66 yX0_wonEndless, Cond.static yX0_wonEndless, Cond.code yX0_wonEndless cX0_wonEndless 10 (some .int), Cond.methodLink RX0 70 yX0_greatestCall, Cond.instanceMethod yX0_greatestCall, Cond.selects RX0 yX0_greatestCall yX0_greatestCall, Cond.code yX0_greatestCall cX0_greatestCall 4 (some .int)]
def wsX5_wonWithout : List Cond := .code yX5_wonWithout cX5_wonWithout 2 (some .int) :: ((wsX5_wonWithout_r1 ++ (wsX5_wonWithout_r2 ++ wsX5_wonWithout_r3)) ++ wsX50 ++ wsX10 ++ wsX00 ++ (vx_atS RX5 334 "java/util/NoSuchElementException" ["java/lang/RuntimeException", "java/lang/Exception"]).filter goodWord)
def wsX5_wonWith_r1 : List Cond := [Cond.fieldLink RX5 47 "ParityGame" "board" "LParityGame$Board;", Cond.fieldLink RX5 12 "ParityGame" "game" "LParityGame$Game;", Cond.methodLink RX5 156 yX5_needPlace, Cond.instanceMethod yX5_needPlace, Cond.selects RX5 yX5_needPlace yX5_needPlace, Cond.initialized RX5, Cond.code yX5_needPlace cX5_needPlace 2 none, Cond.classLink RX5 330 "java/util/NoSuchElementException", Cond.initialized "java/util/NoSuchElementException", Cond.methodLink RX5 327 yX1_hasPlace, Cond.instanceMethod yX1_hasPlace, Cond.selects RX1 yX1_hasPlace yX1_hasPlace, Cond.initialized RX1, Cond.code yX1_hasPlace cX1_hasPlace 2 (some .boolean), Cond.fieldLink RX1 24 "ParityGame$Game" "places" "I", Cond.methodLink RX5 135 yX0_take, Cond.instanceMethod yX0_take, Cond.selects RX0 yX0_take yX0_take, Cond.initialized RX0, Cond.code yX0_take cX0_take 3 none, Cond.fieldLink RX0 21 "ParityGame$Game" "places" "I", Cond.fieldLink RX0 27 "ParityGame$Board" "places" "I", Cond.fieldLink RX0 28 "ParityGame$Board" "all" "I", Cond.fieldLink RX0 9 "ParityGame$Board" "owned" "[I"]
def wsX5_wonWith_r2 : List Cond := [Cond.fieldLink RX0 31 "ParityGame$Game" "odd" "I", Cond.fieldLink RX0 15 "ParityGame$Board" "calling" "[I", Cond.fieldLink RX0 34 "ParityGame$Game" "calls" "[I", Cond.fieldLink RX0 18 "ParityGame$Board" "next" "[I", Cond.fieldLink RX0 37 "ParityGame$Game" "moves" "I", Cond.fieldLink RX0 40 "ParityGame$Game" "from" "[I", Cond.fieldLink RX0 43 "ParityGame$Game" "to" "[I", Cond.methodLink RX0 46 yX0_join, Cond.instanceMethod yX0_join, Cond.selects RX0 yX0_join yX0_join, Cond.code yX0_join cX0_join 3 none, Cond.methodLink RX5 267 yX0_join, Cond.methodLink RX5 259 yX0_wonBy, Cond.instanceMethod yX0_wonBy, Cond.selects RX0 yX0_wonBy yX0_wonBy, Cond.code yX0_wonBy cX0_wonBy 5 (some .int), Cond.methodLink RX0 58 yX0_deadEnds, Cond.instanceMethod yX0_deadEnds, Cond.selects RX0 yX0_deadEnds yX0_deadEnds, Cond.code yX0_deadEnds cX0_deadEnds 3 (some .int), Cond.methodLink RX0 62 yX0_attract, Cond.instanceMethod yX0_attract, Cond.selects RX0 yX0_attract yX0_attract, Cond.code yX0_attract cX0_attract 7 (some .int)]
def wsX5_wonWith_r3 : List Cond := [Cond.methodLink RX0 50 yX0_before, Cond.instanceMethod yX0_before, Cond.selects RX0 yX0_before yX0_before, Cond.code yX0_before cX0_before 10 (some .int), Cond.methodLink RX0 66 yX0_wonEndless, Cond.static yX0_wonEndless, Cond.code yX0_wonEndless cX0_wonEndless 10 (some .int), Cond.methodLink RX0 70 yX0_greatestCall, Cond.instanceMethod yX0_greatestCall, Cond.selects RX0 yX0_greatestCall yX0_greatestCall, Cond.code yX0_greatestCall cX0_greatestCall 4 (some .int)]
def wsX5_wonWith : List Cond := .code yX5_wonWith cX5_wonWith 3 (some .int) :: ((wsX5_wonWith_r1 ++ (wsX5_wonWith_r2 ++ wsX5_wonWith_r3)) ++ wsX50 ++ wsX10 ++ wsX00 ++ (vx_atS RX5 334 "java/util/NoSuchElementException" ["java/lang/RuntimeException", "java/lang/Exception"]).filter goodWord)
def wsX5_beginChange_r1 : List Cond := [Cond.fieldLink RX5 32 "ParityGame" "history" "LParityGame$History;", Cond.fieldLink RX5 12 "ParityGame" "game" "LParityGame$Game;", Cond.fieldLink RX5 56 "ParityGame" "plan" "LParityGame$Plan;", Cond.methodLink RX5 345 yX2_keep, Cond.instanceMethod yX2_keep, Cond.selects RX2 yX2_keep yX2_keep, Cond.initialized RX2, Cond.code yX2_keep cX2_keep 2 none, Cond.fieldLink RX2 11 "ParityGame$History" "ring" "[LParityGame$Game;", Cond.fieldLink RX2 18 "ParityGame$History" "first" "I", Cond.fieldLink RX2 22 "ParityGame$History" "kept" "I", Cond.methodLink RX2 25 yX1_copy, Cond.instanceMethod yX1_copy, Cond.selects RX1 yX1_copy yX1_copy, Cond.initialized RX1, Cond.code yX1_copy cX1_copy 2 none, Cond.fieldLink RX1 24 "ParityGame$Game" "places" "I", Cond.fieldLink RX1 28 "ParityGame$Game" "odd" "I", Cond.fieldLink RX1 9 "ParityGame$Game" "calls" "[I", Cond.methodLink RX1 40 arraycopyName, Cond.native arraycopyName, Cond.static arraycopyName, Cond.initialized "java/lang/System", Cond.fieldLink RX1 31 "ParityGame$Game" "moves" "I"]
def wsX5_beginChange_r2 : List Cond := [Cond.fieldLink RX1 15 "ParityGame$Game" "from" "[I", Cond.fieldLink RX1 18 "ParityGame$Game" "to" "[I", Cond.fieldLink RX1 34 "ParityGame$Game" "token" "I", Cond.fieldLink RX1 37 "ParityGame$Game" "made" "I", Cond.fieldLink RX1 21 "ParityGame$Game" "heard" "[I", Cond.methodLink RX5 108 yX3_forget, Cond.instanceMethod yX3_forget, Cond.selects RX3 yX3_forget yX3_forget, Cond.initialized RX3, Cond.code yX3_forget cX3_forget 1 none, Cond.fieldLink RX3 19 "ParityGame$Plan" "zeroKnown" "Z", Cond.fieldLink RX3 23 "ParityGame$Plan" "chosenKnown" "Z"]
def wsX5_beginChange : List Cond := .code yX5_beginChange cX5_beginChange 1 none :: ((wsX5_beginChange_r1 ++ wsX5_beginChange_r2) ++ wsX50 ++ wsX20 ++ wsX10 ++ wsX30)
def wsX5_setOwner_r1 : List Cond := [Cond.fieldLink RX5 12 "ParityGame" "game" "LParityGame$Game;", Cond.fieldLink RX5 126 "ParityGame$Game" "odd" "I", Cond.methodLink RX5 156 yX5_needPlace, Cond.instanceMethod yX5_needPlace, Cond.selects RX5 yX5_needPlace yX5_needPlace, Cond.initialized RX5, Cond.code yX5_needPlace cX5_needPlace 2 none, Cond.classLink RX5 330 "java/util/NoSuchElementException", Cond.initialized "java/util/NoSuchElementException", Cond.methodLink RX5 327 yX1_hasPlace, Cond.instanceMethod yX1_hasPlace, Cond.selects RX1 yX1_hasPlace yX1_hasPlace, Cond.initialized RX1, Cond.code yX1_hasPlace cX1_hasPlace 2 (some .boolean), Cond.fieldLink RX1 24 "ParityGame$Game" "places" "I", Cond.methodLink RX5 195 yX5_needPlayer, Cond.static yX5_needPlayer, Cond.code yX5_needPlayer cX5_needPlayer 1 none, Cond.classLink RX5 92 "java/lang/IllegalArgumentException", Cond.initialized "java/lang/IllegalArgumentException", Cond.methodLink RX5 272 yX5_beginChange, Cond.instanceMethod yX5_beginChange, Cond.selects RX5 yX5_beginChange yX5_beginChange, Cond.code yX5_beginChange cX5_beginChange 1 none]
def wsX5_setOwner_r2 : List Cond := [Cond.fieldLink RX5 32 "ParityGame" "history" "LParityGame$History;", Cond.fieldLink RX5 56 "ParityGame" "plan" "LParityGame$Plan;", Cond.methodLink RX5 345 yX2_keep, Cond.instanceMethod yX2_keep, Cond.selects RX2 yX2_keep yX2_keep, Cond.initialized RX2, Cond.code yX2_keep cX2_keep 2 none, Cond.fieldLink RX2 11 "ParityGame$History" "ring" "[LParityGame$Game;", Cond.fieldLink RX2 18 "ParityGame$History" "first" "I", Cond.fieldLink RX2 22 "ParityGame$History" "kept" "I", Cond.methodLink RX2 25 yX1_copy, Cond.instanceMethod yX1_copy, Cond.selects RX1 yX1_copy yX1_copy, Cond.code yX1_copy cX1_copy 2 none, Cond.fieldLink RX1 28 "ParityGame$Game" "odd" "I", Cond.fieldLink RX1 9 "ParityGame$Game" "calls" "[I", Cond.methodLink RX1 40 arraycopyName, Cond.native arraycopyName, Cond.static arraycopyName, Cond.initialized "java/lang/System", Cond.fieldLink RX1 31 "ParityGame$Game" "moves" "I", Cond.fieldLink RX1 15 "ParityGame$Game" "from" "[I", Cond.fieldLink RX1 18 "ParityGame$Game" "to" "[I", Cond.fieldLink RX1 34 "ParityGame$Game" "token" "I"]
def wsX5_setOwner_r3 : List Cond := [Cond.fieldLink RX1 37 "ParityGame$Game" "made" "I", Cond.fieldLink RX1 21 "ParityGame$Game" "heard" "[I", Cond.methodLink RX5 108 yX3_forget, Cond.instanceMethod yX3_forget, Cond.selects RX3 yX3_forget yX3_forget, Cond.initialized RX3, Cond.code yX3_forget cX3_forget 1 none, Cond.fieldLink RX3 19 "ParityGame$Plan" "zeroKnown" "Z", Cond.fieldLink RX3 23 "ParityGame$Plan" "chosenKnown" "Z", Cond.methodLink RX5 159 yX1_ownerOf, Cond.instanceMethod yX1_ownerOf, Cond.selects RX1 yX1_ownerOf yX1_ownerOf, Cond.code yX1_ownerOf cX1_ownerOf 2 (some .int)]
def wsX5_setOwner : List Cond := .code yX5_setOwner cX5_setOwner 4 (some .int) :: ((wsX5_setOwner_r1 ++ (wsX5_setOwner_r2 ++ wsX5_setOwner_r3)) ++ wsX50 ++ wsX10 ++ wsX20 ++ wsX30 ++ (vx_atS RX5 334 "java/util/NoSuchElementException" ["java/lang/RuntimeException", "java/lang/Exception"]).filter goodWord ++ (vx_atS RX5 96 "java/lang/IllegalArgumentException" ["java/lang/RuntimeException", "java/lang/Exception"]).filter goodWord)
def wsX5_setCall_r1 : List Cond := [Cond.fieldLink RX5 12 "ParityGame" "game" "LParityGame$Game;", Cond.fieldLink RX5 162 "ParityGame$Game" "calls" "[I", Cond.methodLink RX5 156 yX5_needPlace, Cond.instanceMethod yX5_needPlace, Cond.selects RX5 yX5_needPlace yX5_needPlace, Cond.initialized RX5, Cond.code yX5_needPlace cX5_needPlace 2 none, Cond.classLink RX5 330 "java/util/NoSuchElementException", Cond.initialized "java/util/NoSuchElementException", Cond.methodLink RX5 327 yX1_hasPlace, Cond.instanceMethod yX1_hasPlace, Cond.selects RX1 yX1_hasPlace yX1_hasPlace, Cond.initialized RX1, Cond.code yX1_hasPlace cX1_hasPlace 2 (some .boolean), Cond.fieldLink RX1 24 "ParityGame$Game" "places" "I", Cond.methodLink RX5 189 yX5_needCall, Cond.static yX5_needCall, Cond.code yX5_needCall cX5_needCall 1 none, Cond.classLink RX5 92 "java/lang/IllegalArgumentException", Cond.initialized "java/lang/IllegalArgumentException", Cond.methodLink RX5 272 yX5_beginChange, Cond.instanceMethod yX5_beginChange, Cond.selects RX5 yX5_beginChange yX5_beginChange, Cond.code yX5_beginChange cX5_beginChange 1 none]
def wsX5_setCall_r2 : List Cond := [Cond.fieldLink RX5 32 "ParityGame" "history" "LParityGame$History;", Cond.fieldLink RX5 56 "ParityGame" "plan" "LParityGame$Plan;", Cond.methodLink RX5 345 yX2_keep, Cond.instanceMethod yX2_keep, Cond.selects RX2 yX2_keep yX2_keep, Cond.initialized RX2, Cond.code yX2_keep cX2_keep 2 none, Cond.fieldLink RX2 11 "ParityGame$History" "ring" "[LParityGame$Game;", Cond.fieldLink RX2 18 "ParityGame$History" "first" "I", Cond.fieldLink RX2 22 "ParityGame$History" "kept" "I", Cond.methodLink RX2 25 yX1_copy, Cond.instanceMethod yX1_copy, Cond.selects RX1 yX1_copy yX1_copy, Cond.code yX1_copy cX1_copy 2 none, Cond.fieldLink RX1 28 "ParityGame$Game" "odd" "I", Cond.fieldLink RX1 9 "ParityGame$Game" "calls" "[I", Cond.methodLink RX1 40 arraycopyName, Cond.native arraycopyName, Cond.static arraycopyName, Cond.initialized "java/lang/System", Cond.fieldLink RX1 31 "ParityGame$Game" "moves" "I", Cond.fieldLink RX1 15 "ParityGame$Game" "from" "[I", Cond.fieldLink RX1 18 "ParityGame$Game" "to" "[I", Cond.fieldLink RX1 34 "ParityGame$Game" "token" "I"]
def wsX5_setCall_r3 : List Cond := [Cond.fieldLink RX1 37 "ParityGame$Game" "made" "I", Cond.fieldLink RX1 21 "ParityGame$Game" "heard" "[I", Cond.methodLink RX5 108 yX3_forget, Cond.instanceMethod yX3_forget, Cond.selects RX3 yX3_forget yX3_forget, Cond.initialized RX3, Cond.code yX3_forget cX3_forget 1 none, Cond.fieldLink RX3 19 "ParityGame$Plan" "zeroKnown" "Z", Cond.fieldLink RX3 23 "ParityGame$Plan" "chosenKnown" "Z"]
def wsX5_setCall : List Cond := .code yX5_setCall cX5_setCall 4 (some .int) :: ((wsX5_setCall_r1 ++ (wsX5_setCall_r2 ++ wsX5_setCall_r3)) ++ wsX50 ++ wsX10 ++ wsX20 ++ wsX30 ++ (vx_atS RX5 334 "java/util/NoSuchElementException" ["java/lang/RuntimeException", "java/lang/Exception"]).filter goodWord ++ (vx_atS RX5 96 "java/lang/IllegalArgumentException" ["java/lang/RuntimeException", "java/lang/Exception"]).filter goodWord)
def wsX5_addMove_r1 : List Cond := [Cond.classLink RX5 92 "java/lang/IllegalArgumentException", Cond.initialized "java/lang/IllegalArgumentException", Cond.classLink RX5 82 "java/lang/IllegalStateException", Cond.initialized "java/lang/IllegalStateException", Cond.fieldLink RX5 12 "ParityGame" "game" "LParityGame$Game;", Cond.fieldLink RX5 123 "ParityGame$Game" "moves" "I", Cond.methodLink RX5 156 yX5_needPlace, Cond.instanceMethod yX5_needPlace, Cond.selects RX5 yX5_needPlace yX5_needPlace, Cond.initialized RX5, Cond.code yX5_needPlace cX5_needPlace 2 none, Cond.classLink RX5 330 "java/util/NoSuchElementException", Cond.initialized "java/util/NoSuchElementException", Cond.methodLink RX5 327 yX1_hasPlace, Cond.instanceMethod yX1_hasPlace, Cond.selects RX1 yX1_hasPlace yX1_hasPlace, Cond.initialized RX1, Cond.code yX1_hasPlace cX1_hasPlace 2 (some .boolean), Cond.fieldLink RX1 24 "ParityGame$Game" "places" "I", Cond.methodLink RX5 185 yX1_findMove, Cond.instanceMethod yX1_findMove, Cond.selects RX1 yX1_findMove yX1_findMove, Cond.code yX1_findMove cX1_findMove 4 (some .int), Cond.fieldLink RX1 31 "ParityGame$Game" "moves" "I"]
def wsX5_addMove_r2 : List Cond := [Cond.fieldLink RX1 15 "ParityGame$Game" "from" "[I", Cond.fieldLink RX1 18 "ParityGame$Game" "to" "[I", Cond.methodLink RX5 272 yX5_beginChange, Cond.instanceMethod yX5_beginChange, Cond.selects RX5 yX5_beginChange yX5_beginChange, Cond.code yX5_beginChange cX5_beginChange 1 none, Cond.fieldLink RX5 32 "ParityGame" "history" "LParityGame$History;", Cond.fieldLink RX5 56 "ParityGame" "plan" "LParityGame$Plan;", Cond.methodLink RX5 345 yX2_keep, Cond.instanceMethod yX2_keep, Cond.selects RX2 yX2_keep yX2_keep, Cond.initialized RX2, Cond.code yX2_keep cX2_keep 2 none, Cond.fieldLink RX2 11 "ParityGame$History" "ring" "[LParityGame$Game;", Cond.fieldLink RX2 18 "ParityGame$History" "first" "I", Cond.fieldLink RX2 22 "ParityGame$History" "kept" "I", Cond.methodLink RX2 25 yX1_copy, Cond.instanceMethod yX1_copy, Cond.selects RX1 yX1_copy yX1_copy, Cond.code yX1_copy cX1_copy 2 none, Cond.fieldLink RX1 28 "ParityGame$Game" "odd" "I", Cond.fieldLink RX1 9 "ParityGame$Game" "calls" "[I", Cond.methodLink RX1 40 arraycopyName, Cond.native arraycopyName]
def wsX5_addMove_r3 : List Cond := [Cond.static arraycopyName, Cond.initialized "java/lang/System", Cond.fieldLink RX1 34 "ParityGame$Game" "token" "I", Cond.fieldLink RX1 37 "ParityGame$Game" "made" "I", Cond.fieldLink RX1 21 "ParityGame$Game" "heard" "[I", Cond.methodLink RX5 108 yX3_forget, Cond.instanceMethod yX3_forget, Cond.selects RX3 yX3_forget yX3_forget, Cond.initialized RX3, Cond.code yX3_forget cX3_forget 1 none, Cond.fieldLink RX3 19 "ParityGame$Plan" "zeroKnown" "Z", Cond.fieldLink RX3 23 "ParityGame$Plan" "chosenKnown" "Z", Cond.methodLink RX5 71 yX1_appendMove, Cond.instanceMethod yX1_appendMove, Cond.selects RX1 yX1_appendMove yX1_appendMove, Cond.code yX1_appendMove cX1_appendMove 3 none]
def wsX5_addMove : List Cond := .code yX5_addMove cX5_addMove 3 (some .int) :: ((wsX5_addMove_r1 ++ (wsX5_addMove_r2 ++ wsX5_addMove_r3)) ++ wsX50 ++ wsX10 ++ wsX20 ++ wsX30 ++ (vx_atS RX5 96 "java/lang/IllegalArgumentException" ["java/lang/RuntimeException", "java/lang/Exception"]).filter goodWord ++ (vx_atS RX5 86 "java/lang/IllegalStateException" ["java/lang/RuntimeException", "java/lang/Exception"]).filter goodWord ++ (vx_atS RX5 334 "java/util/NoSuchElementException" ["java/lang/RuntimeException", "java/lang/Exception"]).filter goodWord)
def wsX5_removeMove_r1 : List Cond := [Cond.fieldLink RX5 12 "ParityGame" "game" "LParityGame$Game;", Cond.fieldLink RX5 123 "ParityGame$Game" "moves" "I", Cond.methodLink RX5 174 yX5_needMove, Cond.instanceMethod yX5_needMove, Cond.selects RX5 yX5_needMove yX5_needMove, Cond.initialized RX5, Cond.code yX5_needMove cX5_needMove 2 none, Cond.classLink RX5 330 "java/util/NoSuchElementException", Cond.initialized "java/util/NoSuchElementException", Cond.methodLink RX5 272 yX5_beginChange, Cond.instanceMethod yX5_beginChange, Cond.selects RX5 yX5_beginChange yX5_beginChange, Cond.code yX5_beginChange cX5_beginChange 1 none, Cond.fieldLink RX5 32 "ParityGame" "history" "LParityGame$History;", Cond.fieldLink RX5 56 "ParityGame" "plan" "LParityGame$Plan;", Cond.methodLink RX5 345 yX2_keep, Cond.instanceMethod yX2_keep, Cond.selects RX2 yX2_keep yX2_keep, Cond.initialized RX2, Cond.code yX2_keep cX2_keep 2 none, Cond.fieldLink RX2 11 "ParityGame$History" "ring" "[LParityGame$Game;", Cond.fieldLink RX2 18 "ParityGame$History" "first" "I", Cond.fieldLink RX2 22 "ParityGame$History" "kept" "I", Cond.methodLink RX2 25 yX1_copy]
def wsX5_removeMove_r2 : List Cond := [Cond.instanceMethod yX1_copy, Cond.selects RX1 yX1_copy yX1_copy, Cond.initialized RX1, Cond.code yX1_copy cX1_copy 2 none, Cond.fieldLink RX1 24 "ParityGame$Game" "places" "I", Cond.fieldLink RX1 28 "ParityGame$Game" "odd" "I", Cond.fieldLink RX1 9 "ParityGame$Game" "calls" "[I", Cond.methodLink RX1 40 arraycopyName, Cond.native arraycopyName, Cond.static arraycopyName, Cond.initialized "java/lang/System", Cond.fieldLink RX1 31 "ParityGame$Game" "moves" "I", Cond.fieldLink RX1 15 "ParityGame$Game" "from" "[I", Cond.fieldLink RX1 18 "ParityGame$Game" "to" "[I", Cond.fieldLink RX1 34 "ParityGame$Game" "token" "I", Cond.fieldLink RX1 37 "ParityGame$Game" "made" "I", Cond.fieldLink RX1 21 "ParityGame$Game" "heard" "[I", Cond.methodLink RX5 108 yX3_forget, Cond.instanceMethod yX3_forget, Cond.selects RX3 yX3_forget yX3_forget, Cond.initialized RX3, Cond.code yX3_forget cX3_forget 1 none, Cond.fieldLink RX3 19 "ParityGame$Plan" "zeroKnown" "Z", Cond.fieldLink RX3 23 "ParityGame$Plan" "chosenKnown" "Z"]
def wsX5_removeMove_r3 : List Cond := [Cond.methodLink RX5 287 yX1_dropMove, Cond.instanceMethod yX1_dropMove, Cond.selects RX1 yX1_dropMove yX1_dropMove, Cond.code yX1_dropMove cX1_dropMove 3 none]
def wsX5_removeMove : List Cond := .code yX5_removeMove cX5_removeMove 2 (some .int) :: ((wsX5_removeMove_r1 ++ (wsX5_removeMove_r2 ++ wsX5_removeMove_r3)) ++ wsX50 ++ wsX10 ++ wsX20 ++ wsX30 ++ (vx_atS RX5 334 "java/util/NoSuchElementException" ["java/lang/RuntimeException", "java/lang/Exception"]).filter goodWord)
def wsX5_preferMove_r1 : List Cond := [Cond.fieldLink RX5 12 "ParityGame" "game" "LParityGame$Game;", Cond.fieldLink RX5 179 "ParityGame$Game" "from" "[I", Cond.methodLink RX5 174 yX5_needMove, Cond.instanceMethod yX5_needMove, Cond.selects RX5 yX5_needMove yX5_needMove, Cond.initialized RX5, Cond.code yX5_needMove cX5_needMove 2 none, Cond.classLink RX5 330 "java/util/NoSuchElementException", Cond.initialized "java/util/NoSuchElementException", Cond.fieldLink RX5 123 "ParityGame$Game" "moves" "I", Cond.methodLink RX5 272 yX5_beginChange, Cond.instanceMethod yX5_beginChange, Cond.selects RX5 yX5_beginChange yX5_beginChange, Cond.code yX5_beginChange cX5_beginChange 1 none, Cond.fieldLink RX5 32 "ParityGame" "history" "LParityGame$History;", Cond.fieldLink RX5 56 "ParityGame" "plan" "LParityGame$Plan;", Cond.methodLink RX5 345 yX2_keep, Cond.instanceMethod yX2_keep, Cond.selects RX2 yX2_keep yX2_keep, Cond.initialized RX2, Cond.code yX2_keep cX2_keep 2 none, Cond.fieldLink RX2 11 "ParityGame$History" "ring" "[LParityGame$Game;", Cond.fieldLink RX2 18 "ParityGame$History" "first" "I", Cond.fieldLink RX2 22 "ParityGame$History" "kept" "I"]
def wsX5_preferMove_r2 : List Cond := [Cond.methodLink RX2 25 yX1_copy, Cond.instanceMethod yX1_copy, Cond.selects RX1 yX1_copy yX1_copy, Cond.initialized RX1, Cond.code yX1_copy cX1_copy 2 none, Cond.fieldLink RX1 24 "ParityGame$Game" "places" "I", Cond.fieldLink RX1 28 "ParityGame$Game" "odd" "I", Cond.fieldLink RX1 9 "ParityGame$Game" "calls" "[I", Cond.methodLink RX1 40 arraycopyName, Cond.native arraycopyName, Cond.static arraycopyName, Cond.initialized "java/lang/System", Cond.fieldLink RX1 31 "ParityGame$Game" "moves" "I", Cond.fieldLink RX1 15 "ParityGame$Game" "from" "[I", Cond.fieldLink RX1 18 "ParityGame$Game" "to" "[I", Cond.fieldLink RX1 34 "ParityGame$Game" "token" "I", Cond.fieldLink RX1 37 "ParityGame$Game" "made" "I", Cond.fieldLink RX1 21 "ParityGame$Game" "heard" "[I", Cond.methodLink RX5 108 yX3_forget, Cond.instanceMethod yX3_forget, Cond.selects RX3 yX3_forget yX3_forget, Cond.initialized RX3, Cond.code yX3_forget cX3_forget 1 none, Cond.fieldLink RX3 19 "ParityGame$Plan" "zeroKnown" "Z"]
def wsX5_preferMove_r3 : List Cond := [Cond.fieldLink RX3 23 "ParityGame$Plan" "chosenKnown" "Z", Cond.methodLink RX5 290 yX1_bringToFront, Cond.instanceMethod yX1_bringToFront, Cond.selects RX1 yX1_bringToFront yX1_bringToFront, Cond.code yX1_bringToFront cX1_bringToFront 5 none]
def wsX5_preferMove : List Cond := .code yX5_preferMove cX5_preferMove 2 (some .int) :: ((wsX5_preferMove_r1 ++ (wsX5_preferMove_r2 ++ wsX5_preferMove_r3)) ++ wsX50 ++ wsX10 ++ wsX20 ++ wsX30 ++ (vx_atS RX5 334 "java/util/NoSuchElementException" ["java/lang/RuntimeException", "java/lang/Exception"]).filter goodWord)
def wsX5_exchange_r1 : List Cond := [Cond.classLink RX5 82 "java/lang/IllegalStateException", Cond.initialized "java/lang/IllegalStateException", Cond.fieldLink RX5 12 "ParityGame" "game" "LParityGame$Game;", Cond.fieldLink RX5 126 "ParityGame$Game" "odd" "I", Cond.fieldLink RX5 114 "ParityGame$Game" "places" "I", Cond.fieldLink RX5 162 "ParityGame$Game" "calls" "[I", Cond.methodLink RX5 145 yX1_greatestCall, Cond.instanceMethod yX1_greatestCall, Cond.selects RX1 yX1_greatestCall yX1_greatestCall, Cond.initialized RX1, Cond.code yX1_greatestCall cX1_greatestCall 3 (some .int), Cond.fieldLink RX1 24 "ParityGame$Game" "places" "I", Cond.fieldLink RX1 9 "ParityGame$Game" "calls" "[I", Cond.methodLink RX1 46 Lib.Math.max.name, Cond.static Lib.Math.max.name, Cond.initialized "java/lang/Math", Cond.code Lib.Math.max.name Lib.Math.max.code 2 (some .int), Cond.methodLink RX5 272 yX5_beginChange, Cond.instanceMethod yX5_beginChange, Cond.selects RX5 yX5_beginChange yX5_beginChange, Cond.initialized RX5, Cond.code yX5_beginChange cX5_beginChange 1 none, Cond.fieldLink RX5 32 "ParityGame" "history" "LParityGame$History;", Cond.fieldLink RX5 56 "ParityGame" "plan" "LParityGame$Plan;"]
def wsX5_exchange_r2 : List Cond := [Cond.methodLink RX5 345 yX2_keep, Cond.instanceMethod yX2_keep, Cond.selects RX2 yX2_keep yX2_keep, Cond.initialized RX2, Cond.code yX2_keep cX2_keep 2 none, Cond.fieldLink RX2 11 "ParityGame$History" "ring" "[LParityGame$Game;", Cond.fieldLink RX2 18 "ParityGame$History" "first" "I", Cond.fieldLink RX2 22 "ParityGame$History" "kept" "I", Cond.methodLink RX2 25 yX1_copy, Cond.instanceMethod yX1_copy, Cond.selects RX1 yX1_copy yX1_copy, Cond.code yX1_copy cX1_copy 2 none, Cond.fieldLink RX1 28 "ParityGame$Game" "odd" "I", Cond.methodLink RX1 40 arraycopyName, Cond.native arraycopyName, Cond.static arraycopyName, Cond.initialized "java/lang/System", Cond.fieldLink RX1 31 "ParityGame$Game" "moves" "I", Cond.fieldLink RX1 15 "ParityGame$Game" "from" "[I", Cond.fieldLink RX1 18 "ParityGame$Game" "to" "[I", Cond.fieldLink RX1 34 "ParityGame$Game" "token" "I", Cond.fieldLink RX1 37 "ParityGame$Game" "made" "I", Cond.fieldLink RX1 21 "ParityGame$Game" "heard" "[I", Cond.methodLink RX5 108 yX3_forget]
def wsX5_exchange_r3 : List Cond := [Cond.instanceMethod yX3_forget, Cond.selects RX3 yX3_forget yX3_forget, Cond.initialized RX3, Cond.code yX3_forget cX3_forget 1 none, Cond.fieldLink RX3 19 "ParityGame$Plan" "zeroKnown" "Z", Cond.fieldLink RX3 23 "ParityGame$Plan" "chosenKnown" "Z", Cond.methodLink RX5 74 yX1_layAt, Cond.instanceMethod yX1_layAt, Cond.selects RX1 yX1_layAt yX1_layAt, Cond.code yX1_layAt cX1_layAt 3 none]
def wsX5_exchange : List Cond := .code yX5_exchange cX5_exchange 2 (some .int) :: ((wsX5_exchange_r1 ++ (wsX5_exchange_r2 ++ wsX5_exchange_r3)) ++ wsX50 ++ wsX10 ++ wsX20 ++ wsX30 ++ (vx_atS RX5 86 "java/lang/IllegalStateException" ["java/lang/RuntimeException", "java/lang/Exception"]).filter goodWord)
def wsX5_lay_r1 : List Cond := [Cond.fieldLink RX5 12 "ParityGame" "game" "LParityGame$Game;", Cond.methodLink RX5 156 yX5_needPlace, Cond.instanceMethod yX5_needPlace, Cond.selects RX5 yX5_needPlace yX5_needPlace, Cond.initialized RX5, Cond.code yX5_needPlace cX5_needPlace 2 none, Cond.classLink RX5 330 "java/util/NoSuchElementException", Cond.initialized "java/util/NoSuchElementException", Cond.methodLink RX5 327 yX1_hasPlace, Cond.instanceMethod yX1_hasPlace, Cond.selects RX1 yX1_hasPlace yX1_hasPlace, Cond.initialized RX1, Cond.code yX1_hasPlace cX1_hasPlace 2 (some .boolean), Cond.fieldLink RX1 24 "ParityGame$Game" "places" "I", Cond.methodLink RX5 272 yX5_beginChange, Cond.instanceMethod yX5_beginChange, Cond.selects RX5 yX5_beginChange yX5_beginChange, Cond.code yX5_beginChange cX5_beginChange 1 none, Cond.fieldLink RX5 32 "ParityGame" "history" "LParityGame$History;", Cond.fieldLink RX5 56 "ParityGame" "plan" "LParityGame$Plan;", Cond.methodLink RX5 345 yX2_keep, Cond.instanceMethod yX2_keep, Cond.selects RX2 yX2_keep yX2_keep, Cond.initialized RX2]
def wsX5_lay_r2 : List Cond := [Cond.code yX2_keep cX2_keep 2 none, Cond.fieldLink RX2 11 "ParityGame$History" "ring" "[LParityGame$Game;", Cond.fieldLink RX2 18 "ParityGame$History" "first" "I", Cond.fieldLink RX2 22 "ParityGame$History" "kept" "I", Cond.methodLink RX2 25 yX1_copy, Cond.instanceMethod yX1_copy, Cond.selects RX1 yX1_copy yX1_copy, Cond.code yX1_copy cX1_copy 2 none, Cond.fieldLink RX1 28 "ParityGame$Game" "odd" "I", Cond.fieldLink RX1 9 "ParityGame$Game" "calls" "[I", Cond.methodLink RX1 40 arraycopyName, Cond.native arraycopyName, Cond.static arraycopyName, Cond.initialized "java/lang/System", Cond.fieldLink RX1 31 "ParityGame$Game" "moves" "I", Cond.fieldLink RX1 15 "ParityGame$Game" "from" "[I", Cond.fieldLink RX1 18 "ParityGame$Game" "to" "[I", Cond.fieldLink RX1 34 "ParityGame$Game" "token" "I", Cond.fieldLink RX1 37 "ParityGame$Game" "made" "I", Cond.fieldLink RX1 21 "ParityGame$Game" "heard" "[I", Cond.methodLink RX5 108 yX3_forget, Cond.instanceMethod yX3_forget, Cond.selects RX3 yX3_forget yX3_forget, Cond.initialized RX3]
def wsX5_lay_r3 : List Cond := [Cond.code yX3_forget cX3_forget 1 none, Cond.fieldLink RX3 19 "ParityGame$Plan" "zeroKnown" "Z", Cond.fieldLink RX3 23 "ParityGame$Plan" "chosenKnown" "Z", Cond.methodLink RX5 74 yX1_layAt, Cond.instanceMethod yX1_layAt, Cond.selects RX1 yX1_layAt yX1_layAt, Cond.code yX1_layAt cX1_layAt 3 none, Cond.methodLink RX5 171 yX5_winnerOf, Cond.instanceMethod yX5_winnerOf, Cond.selects RX5 yX5_winnerOf yX5_winnerOf, Cond.code yX5_winnerOf cX5_winnerOf 2 (some .int), Cond.methodLink RX5 198 yX3_wonBy, Cond.instanceMethod yX3_wonBy, Cond.selects RX3 yX3_wonBy yX3_wonBy, Cond.code yX3_wonBy cX3_wonBy 3 (some .int), Cond.fieldLink RX3 15 "ParityGame$Plan" "board" "LParityGame$Board;", Cond.fieldLink RX3 36 "ParityGame$Plan" "zero" "I", Cond.fieldLink RX3 40 "ParityGame$Game" "places" "I", Cond.methodLink RX3 26 yX0_take, Cond.instanceMethod yX0_take, Cond.selects RX0 yX0_take yX0_take, Cond.initialized RX0, Cond.code yX0_take cX0_take 3 none, Cond.fieldLink RX0 21 "ParityGame$Game" "places" "I"]
def wsX5_lay_r4 : List Cond := [Cond.fieldLink RX0 27 "ParityGame$Board" "places" "I", Cond.fieldLink RX0 28 "ParityGame$Board" "all" "I", Cond.fieldLink RX0 9 "ParityGame$Board" "owned" "[I", Cond.fieldLink RX0 31 "ParityGame$Game" "odd" "I", Cond.fieldLink RX0 15 "ParityGame$Board" "calling" "[I", Cond.fieldLink RX0 34 "ParityGame$Game" "calls" "[I", Cond.fieldLink RX0 18 "ParityGame$Board" "next" "[I", Cond.fieldLink RX0 37 "ParityGame$Game" "moves" "I", Cond.fieldLink RX0 40 "ParityGame$Game" "from" "[I", Cond.fieldLink RX0 43 "ParityGame$Game" "to" "[I", Cond.methodLink RX0 46 yX0_join, Cond.instanceMethod yX0_join, Cond.selects RX0 yX0_join yX0_join, Cond.code yX0_join cX0_join 3 none, Cond.methodLink RX3 32 yX0_wonBy, Cond.instanceMethod yX0_wonBy, Cond.selects RX0 yX0_wonBy yX0_wonBy, Cond.code yX0_wonBy cX0_wonBy 5 (some .int), Cond.methodLink RX0 58 yX0_deadEnds, Cond.instanceMethod yX0_deadEnds, Cond.selects RX0 yX0_deadEnds yX0_deadEnds, Cond.code yX0_deadEnds cX0_deadEnds 3 (some .int), Cond.methodLink RX0 62 yX0_attract, Cond.instanceMethod yX0_attract]
def wsX5_lay_r5 : List Cond := [Cond.selects RX0 yX0_attract yX0_attract, Cond.code yX0_attract cX0_attract 7 (some .int), Cond.methodLink RX0 50 yX0_before, Cond.instanceMethod yX0_before, Cond.selects RX0 yX0_before yX0_before, Cond.code yX0_before cX0_before 10 (some .int), Cond.methodLink RX0 66 yX0_wonEndless, Cond.static yX0_wonEndless, Cond.code yX0_wonEndless cX0_wonEndless 10 (some .int), Cond.methodLink RX0 70 yX0_greatestCall, Cond.instanceMethod yX0_greatestCall, Cond.selects RX0 yX0_greatestCall yX0_greatestCall, Cond.code yX0_greatestCall cX0_greatestCall 4 (some .int), Cond.methodLink RX5 210 yX5_has, Cond.static yX5_has, Cond.code yX5_has cX5_has 2 (some .boolean)]
def wsX5_lay : List Cond := .code yX5_lay cX5_lay 2 (some .int) :: ((wsX5_lay_r1 ++ (wsX5_lay_r2 ++ (wsX5_lay_r3 ++ (wsX5_lay_r4 ++ wsX5_lay_r5)))) ++ wsX50 ++ wsX10 ++ wsX20 ++ wsX30 ++ wsX00 ++ (vx_atS RX5 334 "java/util/NoSuchElementException" ["java/lang/RuntimeException", "java/lang/Exception"]).filter goodWord)
def wsX5_go_r1 : List Cond := [Cond.classLink RX5 82 "java/lang/IllegalStateException", Cond.initialized "java/lang/IllegalStateException", Cond.fieldLink RX5 12 "ParityGame" "game" "LParityGame$Game;", Cond.fieldLink RX5 179 "ParityGame$Game" "from" "[I", Cond.fieldLink RX5 148 "ParityGame$Game" "token" "I", Cond.fieldLink RX5 162 "ParityGame$Game" "calls" "[I", Cond.methodLink RX5 174 yX5_needMove, Cond.instanceMethod yX5_needMove, Cond.selects RX5 yX5_needMove yX5_needMove, Cond.initialized RX5, Cond.code yX5_needMove cX5_needMove 2 none, Cond.classLink RX5 330 "java/util/NoSuchElementException", Cond.initialized "java/util/NoSuchElementException", Cond.fieldLink RX5 123 "ParityGame$Game" "moves" "I", Cond.methodLink RX5 272 yX5_beginChange, Cond.instanceMethod yX5_beginChange, Cond.selects RX5 yX5_beginChange yX5_beginChange, Cond.code yX5_beginChange cX5_beginChange 1 none, Cond.fieldLink RX5 32 "ParityGame" "history" "LParityGame$History;", Cond.fieldLink RX5 56 "ParityGame" "plan" "LParityGame$Plan;", Cond.methodLink RX5 345 yX2_keep, Cond.instanceMethod yX2_keep, Cond.selects RX2 yX2_keep yX2_keep, Cond.initialized RX2]
def wsX5_go_r2 : List Cond := [Cond.code yX2_keep cX2_keep 2 none, Cond.fieldLink RX2 11 "ParityGame$History" "ring" "[LParityGame$Game;", Cond.fieldLink RX2 18 "ParityGame$History" "first" "I", Cond.fieldLink RX2 22 "ParityGame$History" "kept" "I", Cond.methodLink RX2 25 yX1_copy, Cond.instanceMethod yX1_copy, Cond.selects RX1 yX1_copy yX1_copy, Cond.initialized RX1, Cond.code yX1_copy cX1_copy 2 none, Cond.fieldLink RX1 24 "ParityGame$Game" "places" "I", Cond.fieldLink RX1 28 "ParityGame$Game" "odd" "I", Cond.fieldLink RX1 9 "ParityGame$Game" "calls" "[I", Cond.methodLink RX1 40 arraycopyName, Cond.native arraycopyName, Cond.static arraycopyName, Cond.initialized "java/lang/System", Cond.fieldLink RX1 31 "ParityGame$Game" "moves" "I", Cond.fieldLink RX1 15 "ParityGame$Game" "from" "[I", Cond.fieldLink RX1 18 "ParityGame$Game" "to" "[I", Cond.fieldLink RX1 34 "ParityGame$Game" "token" "I", Cond.fieldLink RX1 37 "ParityGame$Game" "made" "I", Cond.fieldLink RX1 21 "ParityGame$Game" "heard" "[I", Cond.methodLink RX5 108 yX3_forget, Cond.instanceMethod yX3_forget]
def wsX5_go_r3 : List Cond := [Cond.selects RX3 yX3_forget yX3_forget, Cond.initialized RX3, Cond.code yX3_forget cX3_forget 1 none, Cond.fieldLink RX3 19 "ParityGame$Plan" "zeroKnown" "Z", Cond.fieldLink RX3 23 "ParityGame$Plan" "chosenKnown" "Z", Cond.methodLink RX5 297 yX1_step, Cond.instanceMethod yX1_step, Cond.selects RX1 yX1_step yX1_step, Cond.code yX1_step cX1_step 2 none]
def wsX5_go : List Cond := .code yX5_go cX5_go 2 (some .int) :: ((wsX5_go_r1 ++ (wsX5_go_r2 ++ wsX5_go_r3)) ++ wsX50 ++ wsX10 ++ wsX20 ++ wsX30 ++ (vx_atS RX5 86 "java/lang/IllegalStateException" ["java/lang/RuntimeException", "java/lang/Exception"]).filter goodWord ++ (vx_atS RX5 334 "java/util/NoSuchElementException" ["java/lang/RuntimeException", "java/lang/Exception"]).filter goodWord)
def wsX5_run_r1 : List Cond := [Cond.classLink RX5 92 "java/lang/IllegalArgumentException", Cond.initialized "java/lang/IllegalArgumentException", Cond.fieldLink RX5 56 "ParityGame" "plan" "LParityGame$Plan;", Cond.fieldLink RX5 12 "ParityGame" "game" "LParityGame$Game;", Cond.fieldLink RX5 217 "ParityGame$Plan" "chosen" "[I", Cond.fieldLink RX5 148 "ParityGame$Game" "token" "I", Cond.methodLink RX5 272 yX5_beginChange, Cond.instanceMethod yX5_beginChange, Cond.selects RX5 yX5_beginChange yX5_beginChange, Cond.initialized RX5, Cond.code yX5_beginChange cX5_beginChange 1 none, Cond.fieldLink RX5 32 "ParityGame" "history" "LParityGame$History;", Cond.methodLink RX5 345 yX2_keep, Cond.instanceMethod yX2_keep, Cond.selects RX2 yX2_keep yX2_keep, Cond.initialized RX2, Cond.code yX2_keep cX2_keep 2 none, Cond.fieldLink RX2 11 "ParityGame$History" "ring" "[LParityGame$Game;", Cond.fieldLink RX2 18 "ParityGame$History" "first" "I", Cond.fieldLink RX2 22 "ParityGame$History" "kept" "I", Cond.methodLink RX2 25 yX1_copy, Cond.instanceMethod yX1_copy, Cond.selects RX1 yX1_copy yX1_copy, Cond.initialized RX1]
def wsX5_run_r2 : List Cond := [Cond.code yX1_copy cX1_copy 2 none, Cond.fieldLink RX1 24 "ParityGame$Game" "places" "I", Cond.fieldLink RX1 28 "ParityGame$Game" "odd" "I", Cond.fieldLink RX1 9 "ParityGame$Game" "calls" "[I", Cond.methodLink RX1 40 arraycopyName, Cond.native arraycopyName, Cond.static arraycopyName, Cond.initialized "java/lang/System", Cond.fieldLink RX1 31 "ParityGame$Game" "moves" "I", Cond.fieldLink RX1 15 "ParityGame$Game" "from" "[I", Cond.fieldLink RX1 18 "ParityGame$Game" "to" "[I", Cond.fieldLink RX1 34 "ParityGame$Game" "token" "I", Cond.fieldLink RX1 37 "ParityGame$Game" "made" "I", Cond.fieldLink RX1 21 "ParityGame$Game" "heard" "[I", Cond.methodLink RX5 108 yX3_forget, Cond.instanceMethod yX3_forget, Cond.selects RX3 yX3_forget yX3_forget, Cond.initialized RX3, Cond.code yX3_forget cX3_forget 1 none, Cond.fieldLink RX3 19 "ParityGame$Plan" "zeroKnown" "Z", Cond.fieldLink RX3 23 "ParityGame$Plan" "chosenKnown" "Z", Cond.methodLink RX5 214 yX3_choose, Cond.instanceMethod yX3_choose, Cond.selects RX3 yX3_choose yX3_choose]
def wsX5_run_r3 : List Cond := [Cond.code yX3_choose cX3_choose 5 none, Cond.fieldLink RX3 15 "ParityGame$Plan" "board" "LParityGame$Board;", Cond.fieldLink RX3 40 "ParityGame$Game" "places" "I", Cond.fieldLink RX3 9 "ParityGame$Plan" "chosen" "[I", Cond.methodLink RX3 45 yX3_wonBy, Cond.instanceMethod yX3_wonBy, Cond.selects RX3 yX3_wonBy yX3_wonBy, Cond.code yX3_wonBy cX3_wonBy 3 (some .int), Cond.fieldLink RX3 36 "ParityGame$Plan" "zero" "I", Cond.methodLink RX3 26 yX0_take, Cond.instanceMethod yX0_take, Cond.selects RX0 yX0_take yX0_take, Cond.initialized RX0, Cond.code yX0_take cX0_take 3 none, Cond.fieldLink RX0 21 "ParityGame$Game" "places" "I", Cond.fieldLink RX0 27 "ParityGame$Board" "places" "I", Cond.fieldLink RX0 28 "ParityGame$Board" "all" "I", Cond.fieldLink RX0 9 "ParityGame$Board" "owned" "[I", Cond.fieldLink RX0 31 "ParityGame$Game" "odd" "I", Cond.fieldLink RX0 15 "ParityGame$Board" "calling" "[I", Cond.fieldLink RX0 34 "ParityGame$Game" "calls" "[I", Cond.fieldLink RX0 18 "ParityGame$Board" "next" "[I", Cond.fieldLink RX0 37 "ParityGame$Game" "moves" "I", Cond.fieldLink RX0 40 "ParityGame$Game" "from" "[I"]
def wsX5_run_r4 : List Cond := [Cond.fieldLink RX0 43 "ParityGame$Game" "to" "[I", Cond.methodLink RX0 46 yX0_join, Cond.instanceMethod yX0_join, Cond.selects RX0 yX0_join yX0_join, Cond.code yX0_join cX0_join 3 none, Cond.methodLink RX3 32 yX0_wonBy, Cond.instanceMethod yX0_wonBy, Cond.selects RX0 yX0_wonBy yX0_wonBy, Cond.code yX0_wonBy cX0_wonBy 5 (some .int), Cond.methodLink RX0 58 yX0_deadEnds, Cond.instanceMethod yX0_deadEnds, Cond.selects RX0 yX0_deadEnds yX0_deadEnds, Cond.code yX0_deadEnds cX0_deadEnds 3 (some .int), Cond.methodLink RX0 62 yX0_attract, Cond.instanceMethod yX0_attract, Cond.selects RX0 yX0_attract yX0_attract, Cond.code yX0_attract cX0_attract 7 (some .int), Cond.methodLink RX0 50 yX0_before, Cond.instanceMethod yX0_before, Cond.selects RX0 yX0_before yX0_before, Cond.code yX0_before cX0_before 10 (some .int), Cond.methodLink RX0 66 yX0_wonEndless, Cond.static yX0_wonEndless, Cond.code yX0_wonEndless cX0_wonEndless 10 (some .int)]
def wsX5_run_r5 : List Cond := [Cond.methodLink RX0 70 yX0_greatestCall, Cond.instanceMethod yX0_greatestCall, Cond.selects RX0 yX0_greatestCall yX0_greatestCall, Cond.code yX0_greatestCall cX0_greatestCall 4 (some .int), Cond.methodLink RX3 48 yX1_ownerOf, Cond.instanceMethod yX1_ownerOf, Cond.selects RX1 yX1_ownerOf yX1_ownerOf, Cond.code yX1_ownerOf cX1_ownerOf 2 (some .int), Cond.static yX5_has, Cond.code yX5_has cX5_has 2 (some .boolean), Cond.methodLink RX3 55 yX3_winningMove, Cond.instanceMethod yX3_winningMove, Cond.selects RX3 yX3_winningMove yX3_winningMove, Cond.code yX3_winningMove cX3_winningMove 6 (some .int), Cond.fieldLink RX3 62 "ParityGame$Game" "moves" "I", Cond.fieldLink RX3 65 "ParityGame$Game" "from" "[I", Cond.fieldLink RX3 68 "ParityGame$Game" "to" "[I", Cond.fieldLink RX3 71 "ParityGame$Board" "next" "[I", Cond.methodLink RX3 59 yX1_firstMove, Cond.instanceMethod yX1_firstMove, Cond.selects RX1 yX1_firstMove yX1_firstMove, Cond.code yX1_firstMove cX1_firstMove 3 (some .int), Cond.methodLink RX5 297 yX1_step, Cond.instanceMethod yX1_step]
def wsX5_run_r6 : List Cond := [Cond.selects RX1 yX1_step yX1_step, Cond.code yX1_step cX1_step 2 none]
def wsX5_run : List Cond := .code yX5_run cX5_run 4 (some .int) :: ((wsX5_run_r1 ++ (wsX5_run_r2 ++ (wsX5_run_r3 ++ (wsX5_run_r4 ++ (wsX5_run_r5 ++ wsX5_run_r6))))) ++ wsX50 ++ wsX30 ++ wsX10 ++ wsX20 ++ wsX00 ++ (vx_atS RX5 96 "java/lang/IllegalArgumentException" ["java/lang/RuntimeException", "java/lang/Exception"]).filter goodWord)
def wsX5_needSlot : List Cond := .code yX5_needSlot cX5_needSlot 1 none :: ([.classLink RX5 92 "java/lang/IllegalArgumentException", .initialized "java/lang/IllegalArgumentException"] ++ (vx_atS RX5 96 "java/lang/IllegalArgumentException" ["java/lang/RuntimeException", "java/lang/Exception"]).filter goodWord)
def wsX5_restore_r1 : List Cond := [Cond.classLink RX5 82 "java/lang/IllegalStateException", Cond.initialized "java/lang/IllegalStateException", Cond.fieldLink RX5 40 "ParityGame" "isSaved" "[Z", Cond.fieldLink RX5 12 "ParityGame" "game" "LParityGame$Game;", Cond.fieldLink RX5 36 "ParityGame" "saved" "[LParityGame$Game;", Cond.fieldLink RX5 114 "ParityGame$Game" "places" "I", Cond.methodLink RX5 300 yX5_needSlot, Cond.static yX5_needSlot, Cond.initialized RX5, Cond.code yX5_needSlot cX5_needSlot 1 none, Cond.classLink RX5 92 "java/lang/IllegalArgumentException", Cond.initialized "java/lang/IllegalArgumentException", Cond.methodLink RX5 272 yX5_beginChange, Cond.instanceMethod yX5_beginChange, Cond.selects RX5 yX5_beginChange yX5_beginChange, Cond.code yX5_beginChange cX5_beginChange 1 none, Cond.fieldLink RX5 32 "ParityGame" "history" "LParityGame$History;", Cond.fieldLink RX5 56 "ParityGame" "plan" "LParityGame$Plan;", Cond.methodLink RX5 345 yX2_keep, Cond.instanceMethod yX2_keep, Cond.selects RX2 yX2_keep yX2_keep, Cond.initialized RX2, Cond.code yX2_keep cX2_keep 2 none, Cond.fieldLink RX2 11 "ParityGame$History" "ring" "[LParityGame$Game;"]
def wsX5_restore_r2 : List Cond := [Cond.fieldLink RX2 18 "ParityGame$History" "first" "I", Cond.fieldLink RX2 22 "ParityGame$History" "kept" "I", Cond.methodLink RX2 25 yX1_copy, Cond.instanceMethod yX1_copy, Cond.selects RX1 yX1_copy yX1_copy, Cond.initialized RX1, Cond.code yX1_copy cX1_copy 2 none, Cond.fieldLink RX1 24 "ParityGame$Game" "places" "I", Cond.fieldLink RX1 28 "ParityGame$Game" "odd" "I", Cond.fieldLink RX1 9 "ParityGame$Game" "calls" "[I", Cond.methodLink RX1 40 arraycopyName, Cond.native arraycopyName, Cond.static arraycopyName, Cond.initialized "java/lang/System", Cond.fieldLink RX1 31 "ParityGame$Game" "moves" "I", Cond.fieldLink RX1 15 "ParityGame$Game" "from" "[I", Cond.fieldLink RX1 18 "ParityGame$Game" "to" "[I", Cond.fieldLink RX1 34 "ParityGame$Game" "token" "I", Cond.fieldLink RX1 37 "ParityGame$Game" "made" "I", Cond.fieldLink RX1 21 "ParityGame$Game" "heard" "[I", Cond.methodLink RX5 108 yX3_forget, Cond.instanceMethod yX3_forget, Cond.selects RX3 yX3_forget yX3_forget, Cond.initialized RX3]
def wsX5_restore_r3 : List Cond := [Cond.code yX3_forget cX3_forget 1 none, Cond.fieldLink RX3 19 "ParityGame$Plan" "zeroKnown" "Z", Cond.fieldLink RX3 23 "ParityGame$Plan" "chosenKnown" "Z", Cond.methodLink RX5 104 yX1_copy]
def wsX5_restore : List Cond := .code yX5_restore cX5_restore 2 (some .int) :: ((wsX5_restore_r1 ++ (wsX5_restore_r2 ++ wsX5_restore_r3)) ++ wsX50 ++ wsX10 ++ wsX20 ++ wsX30 ++ (vx_atS RX5 86 "java/lang/IllegalStateException" ["java/lang/RuntimeException", "java/lang/Exception"]).filter goodWord ++ (vx_atS RX5 96 "java/lang/IllegalArgumentException" ["java/lang/RuntimeException", "java/lang/Exception"]).filter goodWord)
def wsX5_undo_r1 : List Cond := [Cond.classLink RX5 82 "java/lang/IllegalStateException", Cond.initialized "java/lang/IllegalStateException", Cond.fieldLink RX5 32 "ParityGame" "history" "LParityGame$History;", Cond.fieldLink RX5 305 "ParityGame$History" "kept" "I", Cond.fieldLink RX5 56 "ParityGame" "plan" "LParityGame$Plan;", Cond.fieldLink RX5 12 "ParityGame" "game" "LParityGame$Game;", Cond.methodLink RX5 108 yX3_forget, Cond.instanceMethod yX3_forget, Cond.selects RX3 yX3_forget yX3_forget, Cond.initialized RX3, Cond.code yX3_forget cX3_forget 1 none, Cond.fieldLink RX3 19 "ParityGame$Plan" "zeroKnown" "Z", Cond.fieldLink RX3 23 "ParityGame$Plan" "chosenKnown" "Z", Cond.methodLink RX5 310 yX2_takeLatest, Cond.instanceMethod yX2_takeLatest, Cond.selects RX2 yX2_takeLatest yX2_takeLatest, Cond.initialized RX2, Cond.code yX2_takeLatest cX2_takeLatest 2 none, Cond.fieldLink RX2 22 "ParityGame$History" "kept" "I", Cond.fieldLink RX2 11 "ParityGame$History" "ring" "[LParityGame$Game;", Cond.fieldLink RX2 18 "ParityGame$History" "first" "I", Cond.methodLink RX2 25 yX1_copy, Cond.instanceMethod yX1_copy, Cond.selects RX1 yX1_copy yX1_copy]
def wsX5_undo_r2 : List Cond := [Cond.initialized RX1, Cond.code yX1_copy cX1_copy 2 none, Cond.fieldLink RX1 24 "ParityGame$Game" "places" "I", Cond.fieldLink RX1 28 "ParityGame$Game" "odd" "I", Cond.fieldLink RX1 9 "ParityGame$Game" "calls" "[I", Cond.methodLink RX1 40 arraycopyName, Cond.native arraycopyName, Cond.static arraycopyName, Cond.initialized "java/lang/System", Cond.fieldLink RX1 31 "ParityGame$Game" "moves" "I", Cond.fieldLink RX1 15 "ParityGame$Game" "from" "[I", Cond.fieldLink RX1 18 "ParityGame$Game" "to" "[I", Cond.fieldLink RX1 34 "ParityGame$Game" "token" "I", Cond.fieldLink RX1 37 "ParityGame$Game" "made" "I", Cond.fieldLink RX1 21 "ParityGame$Game" "heard" "[I"]
def wsX5_undo : List Cond := .code yX5_undo cX5_undo 1 (some .int) :: ((wsX5_undo_r1 ++ wsX5_undo_r2) ++ wsX50 ++ wsX20 ++ wsX30 ++ wsX10 ++ (vx_atS RX5 86 "java/lang/IllegalStateException" ["java/lang/RuntimeException", "java/lang/Exception"]).filter goodWord)
def wsX5_save_r1 : List Cond := [Cond.fieldLink RX5 36 "ParityGame" "saved" "[LParityGame$Game;", Cond.fieldLink RX5 12 "ParityGame" "game" "LParityGame$Game;", Cond.fieldLink RX5 40 "ParityGame" "isSaved" "[Z", Cond.methodLink RX5 300 yX5_needSlot, Cond.static yX5_needSlot, Cond.initialized RX5, Cond.code yX5_needSlot cX5_needSlot 1 none, Cond.classLink RX5 92 "java/lang/IllegalArgumentException", Cond.initialized "java/lang/IllegalArgumentException", Cond.methodLink RX5 104 yX1_copy, Cond.instanceMethod yX1_copy, Cond.selects RX1 yX1_copy yX1_copy, Cond.initialized RX1, Cond.code yX1_copy cX1_copy 2 none, Cond.fieldLink RX1 24 "ParityGame$Game" "places" "I", Cond.fieldLink RX1 28 "ParityGame$Game" "odd" "I", Cond.fieldLink RX1 9 "ParityGame$Game" "calls" "[I", Cond.methodLink RX1 40 arraycopyName, Cond.native arraycopyName, Cond.static arraycopyName, Cond.initialized "java/lang/System", Cond.fieldLink RX1 31 "ParityGame$Game" "moves" "I", Cond.fieldLink RX1 15 "ParityGame$Game" "from" "[I", Cond.fieldLink RX1 18 "ParityGame$Game" "to" "[I"]
def wsX5_save_r2 : List Cond := [Cond.fieldLink RX1 34 "ParityGame$Game" "token" "I", Cond.fieldLink RX1 37 "ParityGame$Game" "made" "I", Cond.fieldLink RX1 21 "ParityGame$Game" "heard" "[I"]
def wsX5_save : List Cond := .code yX5_save cX5_save 4 (some .int) :: ((wsX5_save_r1 ++ wsX5_save_r2) ++ wsX50 ++ wsX10 ++ (vx_atS RX5 96 "java/lang/IllegalArgumentException" ["java/lang/RuntimeException", "java/lang/Exception"]).filter goodWord)
def wsJ3_checkFromToIndex_8c36e : List Cond := .code yJ3_checkFromToIndex_8c36e cJ3_checkFromToIndex_8c36e 4 (some .int) :: ([])
def wsJ0_checkBoundsBeginEnd_23922 : List Cond := .code yJ0_checkBoundsBeginEnd_23922 cJ0_checkBoundsBeginEnd_23922 3 none :: ([.fieldLink RJ0 1053 "jdk/internal/util/Preconditions" "SIOOBE_FORMATTER" "Ljava/util/function/BiFunction;", .methodLink RJ0 1062 yJ3_checkFromToIndex_8c36e, .static yJ3_checkFromToIndex_8c36e, .initialized RJ3, .code yJ3_checkFromToIndex_8c36e cJ3_checkFromToIndex_8c36e 4 (some .int)])
def wsJ3_checkFromIndexSize_8c36e : List Cond := .code yJ3_checkFromIndexSize_8c36e cJ3_checkFromIndexSize_8c36e 4 (some .int) :: ([])
def wsJ0_checkBoundsOffCount_cabcc : List Cond := .code yJ0_checkBoundsOffCount_cabcc cJ0_checkBoundsOffCount_cabcc 3 (some .int) :: ([.fieldLink RJ0 1053 "jdk/internal/util/Preconditions" "SIOOBE_FORMATTER" "Ljava/util/function/BiFunction;", .methodLink RJ0 1065 yJ3_checkFromIndexSize_8c36e, .static yJ3_checkFromIndexSize_8c36e, .initialized RJ3, .code yJ3_checkFromIndexSize_8c36e cJ3_checkFromIndexSize_8c36e 4 (some .int)])
def wsJ1_inflate_0e8fd_r1 : List Cond := [Cond.methodLink RJ1 240 yJ2_inflate_0e8fd, Cond.static yJ2_inflate_0e8fd, Cond.initialized RJ2, Cond.code yJ2_inflate_0e8fd cJ2_inflate_0e8fd 6 none, Cond.methodLink RJ2 173 yJ2_checkBoundsOffCount_d044e, Cond.static yJ2_checkBoundsOffCount_d044e, Cond.code yJ2_checkBoundsOffCount_d044e cJ2_checkBoundsOffCount_d044e 3 none, Cond.methodLink RJ2 48 yJ2_length_9d52b, Cond.static yJ2_length_9d52b, Cond.code yJ2_length_9d52b cJ2_length_9d52b 1 (some .int), Cond.methodLink RJ2 419 yJ0_checkBoundsOffCount_cabcc, Cond.static yJ0_checkBoundsOffCount_cabcc, Cond.initialized RJ0, Cond.code yJ0_checkBoundsOffCount_cabcc cJ0_checkBoundsOffCount_cabcc 3 (some .int), Cond.fieldLink RJ0 1053 "jdk/internal/util/Preconditions" "SIOOBE_FORMATTER" "Ljava/util/function/BiFunction;", Cond.methodLink RJ0 1065 yJ3_checkFromIndexSize_8c36e, Cond.static yJ3_checkFromIndexSize_8c36e, Cond.initialized RJ3, Cond.code yJ3_checkFromIndexSize_8c36e cJ3_checkFromIndexSize_8c36e 4 (some .int), Cond.methodLink RJ2 111 yJ2_putChar_b72d1, Cond.static yJ2_putChar_b72d1, Cond.code yJ2_putChar_b72d1 cJ2_putChar_b72d1 3 none, Cond.fieldLink RJ2 44 "java/lang/StringUTF16" "$assertionsDisabled" "Z", Cond.fieldLink RJ2 59 "java/lang/StringUTF16" "HI_BYTE_SHIFT" "I"]
def wsJ1_inflate_0e8fd_r2 : List Cond := [Cond.fieldLink RJ2 63 "java/lang/StringUTF16" "LO_BYTE_SHIFT" "I"]
def wsJ1_inflate_0e8fd : List Cond := .code yJ1_inflate_0e8fd cJ1_inflate_0e8fd 5 none :: ((wsJ1_inflate_0e8fd_r1 ++ wsJ1_inflate_0e8fd_r2))
def wsJ0_getBytes_840e7_r1 : List Cond := [Cond.fieldLink RJ0 9 "java/lang/String" "value" "[B", Cond.methodLink RJ0 212 arraycopyName, Cond.native arraycopyName, Cond.static arraycopyName, Cond.initialized "java/lang/System", Cond.methodLink RJ0 335 yJ0_coder_7d493, Cond.instanceMethod yJ0_coder_7d493, Cond.selects RJ0 yJ0_coder_7d493 yJ0_coder_7d493, Cond.initialized RJ0, Cond.code yJ0_coder_7d493 cJ0_coder_7d493 1 (some .byte), Cond.fieldLink RJ0 38 "java/lang/String" "COMPACT_STRINGS" "Z", Cond.fieldLink RJ0 15 "java/lang/String" "coder" "B", Cond.methodLink RJ0 106 yJ1_inflate_0e8fd, Cond.static yJ1_inflate_0e8fd, Cond.initialized RJ1, Cond.code yJ1_inflate_0e8fd cJ1_inflate_0e8fd 5 none, Cond.methodLink RJ1 240 yJ2_inflate_0e8fd, Cond.static yJ2_inflate_0e8fd, Cond.initialized RJ2, Cond.code yJ2_inflate_0e8fd cJ2_inflate_0e8fd 6 none, Cond.methodLink RJ2 173 yJ2_checkBoundsOffCount_d044e, Cond.static yJ2_checkBoundsOffCount_d044e, Cond.code yJ2_checkBoundsOffCount_d044e cJ2_checkBoundsOffCount_d044e 3 none, Cond.methodLink RJ2 48 yJ2_length_9d52b]
def wsJ0_getBytes_840e7_r2 : List Cond := [Cond.static yJ2_length_9d52b, Cond.code yJ2_length_9d52b cJ2_length_9d52b 1 (some .int), Cond.methodLink RJ2 419 yJ0_checkBoundsOffCount_cabcc, Cond.static yJ0_checkBoundsOffCount_cabcc, Cond.code yJ0_checkBoundsOffCount_cabcc cJ0_checkBoundsOffCount_cabcc 3 (some .int), Cond.fieldLink RJ0 1053 "jdk/internal/util/Preconditions" "SIOOBE_FORMATTER" "Ljava/util/function/BiFunction;", Cond.methodLink RJ0 1065 yJ3_checkFromIndexSize_8c36e, Cond.static yJ3_checkFromIndexSize_8c36e, Cond.initialized RJ3, Cond.code yJ3_checkFromIndexSize_8c36e cJ3_checkFromIndexSize_8c36e 4 (some .int), Cond.methodLink RJ2 111 yJ2_putChar_b72d1, Cond.static yJ2_putChar_b72d1, Cond.code yJ2_putChar_b72d1 cJ2_putChar_b72d1 3 none, Cond.fieldLink RJ2 44 "java/lang/StringUTF16" "$assertionsDisabled" "Z", Cond.fieldLink RJ2 59 "java/lang/StringUTF16" "HI_BYTE_SHIFT" "I", Cond.fieldLink RJ2 63 "java/lang/StringUTF16" "LO_BYTE_SHIFT" "I"]
def wsJ0_getBytes_840e7 : List Cond := .code yJ0_getBytes_840e7 cJ0_getBytes_840e7 4 none :: ((wsJ0_getBytes_840e7_r1 ++ wsJ0_getBytes_840e7_r2) ++ wsJ00)
def wsJ1_canEncode_fc78d : List Cond := .code yJ1_canEncode_fc78d cJ1_canEncode_fc78d 1 (some .boolean) :: ([])
def wsJ6_stringSize_0f7a4 : List Cond := .code yJ6_stringSize_0f7a4 cJ6_stringSize_0f7a4 4 (some .int) :: ([])
def wsJ6_getChars_ba4f3 : List Cond := .code yJ6_getChars_ba4f3 cJ6_getChars_ba4f3 7 (some .int) :: ([.fieldLink RJ6 83 "java/lang/Integer" "DigitOnes" "[B", .fieldLink RJ6 87 "java/lang/Integer" "DigitTens" "[B"])
def wsJ0_init_db425_r1 : List Cond := [Cond.methodLink RJ0 1 objectInit, Cond.instanceMethod objectInit, Cond.code objectInit ⟨#[0xb1]⟩ 1 none, Cond.fieldLink RJ0 15 "java/lang/String" "coder" "B", Cond.fieldLink RJ0 9 "java/lang/String" "value" "[B", Cond.fieldLink RJ0 38 "java/lang/String" "COMPACT_STRINGS" "Z", Cond.fieldLink RJ0 1048 "java/lang/AbstractStringBuilder" "maybeLatin1" "Z", Cond.methodLink RJ0 552 ⟨"java/lang/AbstractStringBuilder", "getValue", "()[B"⟩, Cond.sameMethod "java/lang/AbstractStringBuilder" "java/lang/AbstractStringBuilder" "getValue" "()[B", Cond.selects RJ4 ⟨"java/lang/AbstractStringBuilder", "getValue", "()[B"⟩ yJ5_getValue_6d5f1, Cond.instanceMethod yJ5_getValue_6d5f1, Cond.initialized RJ5, Cond.code yJ5_getValue_6d5f1 cJ5_getValue_6d5f1 1 (some (.array .byte)), Cond.fieldLink RJ5 15 "java/lang/AbstractStringBuilder" "value" "[B", Cond.methodLink RJ0 549 ⟨"java/lang/AbstractStringBuilder", "length", "()I"⟩, Cond.sameMethod "java/lang/AbstractStringBuilder" "java/lang/AbstractStringBuilder" "length" "()I", Cond.instanceMethod ⟨"java/lang/AbstractStringBuilder", "length", "()I"⟩, Cond.selects RJ4 ⟨"java/lang/AbstractStringBuilder", "length", "()I"⟩ yJ4_length_8abf5, Cond.instanceMethod yJ4_length_8abf5, Cond.initialized RJ4, Cond.code yJ4_length_8abf5 cJ4_length_8abf5 1 (some .int), Cond.methodLink RJ4 343 yJ5_length_8abf5, Cond.superclass RJ4 RJ5, Cond.instanceMethod yJ5_length_8abf5]
def wsJ0_init_db425_r2 : List Cond := [Cond.code yJ5_length_8abf5 cJ5_length_8abf5 1 (some .int), Cond.fieldLink RJ5 79 "java/lang/AbstractStringBuilder" "count" "I", Cond.methodLink RJ0 1047 ⟨"java/lang/AbstractStringBuilder", "isLatin1", "()Z"⟩, Cond.sameMethod "java/lang/AbstractStringBuilder" "java/lang/AbstractStringBuilder" "isLatin1" "()Z", Cond.selects RJ4 ⟨"java/lang/AbstractStringBuilder", "isLatin1", "()Z"⟩ yJ5_isLatin1_aae02, Cond.instanceMethod yJ5_isLatin1_aae02, Cond.code yJ5_isLatin1_aae02 cJ5_isLatin1_aae02 1 (some .boolean), Cond.fieldLink RJ5 18 "java/lang/String" "COMPACT_STRINGS" "Z", Cond.fieldLink RJ5 22 "java/lang/AbstractStringBuilder" "coder" "B", Cond.methodLink RJ0 54 yJ7_copyOfRange_39247, Cond.static yJ7_copyOfRange_39247, Cond.initialized RJ7, Cond.code yJ7_copyOfRange_39247 cJ7_copyOfRange_39247 3 (some (.array .byte)), Cond.methodLink RJ7 310 ⟨"[B", "clone", "()Ljava/lang/Object;"⟩, Cond.sameMethod "[B" "java/lang/Object" "clone" "()Ljava/lang/Object;", Cond.native ⟨"java/lang/Object", "clone", "()Ljava/lang/Object;"⟩, Cond.instanceMethod ⟨"java/lang/Object", "clone", "()Ljava/lang/Object;"⟩, Cond.selects "[B" ⟨"[B", "clone", "()Ljava/lang/Object;"⟩ ⟨"java/lang/Object", "clone", "()Ljava/lang/Object;"⟩, Cond.classLink RJ7 311 "[B", Cond.methodLink RJ7 339 yJ7_copyOfRangeByte_39247, Cond.static yJ7_copyOfRangeByte_39247, Cond.code yJ7_copyOfRangeByte_39247 cJ7_copyOfRangeByte_39247 5 (some (.array .byte)), Cond.arrayClass .byte, Cond.methodLink RJ7 304 Lib.Math.min.name]
def wsJ0_init_db425_r3 : List Cond := [Cond.static Lib.Math.min.name, Cond.initialized "java/lang/Math", Cond.code Lib.Math.min.name Lib.Math.min.code 2 (some .int), Cond.methodLink RJ7 150 arraycopyName, Cond.native arraycopyName, Cond.static arraycopyName, Cond.initialized "java/lang/System", Cond.methodLink RJ7 343 yJ7_checkLength_df160, Cond.static yJ7_checkLength_df160, Cond.code yJ7_checkLength_df160 cJ7_checkLength_df160 2 none, Cond.classLink RJ7 45 RJ4, Cond.instantiable RJ4 4, Cond.methodLink RJ0 1051 yJ2_compress_39247, Cond.static yJ2_compress_39247, Cond.initialized RJ2, Cond.code yJ2_compress_39247 cJ2_compress_39247 6 (some (.array .byte)), Cond.methodLink RJ2 123 yJ2_compress_5af95, Cond.static yJ2_compress_5af95, Cond.code yJ2_compress_5af95 cJ2_compress_5af95 7 (some .int), Cond.methodLink RJ2 173 yJ2_checkBoundsOffCount_d044e, Cond.static yJ2_checkBoundsOffCount_d044e, Cond.code yJ2_checkBoundsOffCount_d044e cJ2_checkBoundsOffCount_d044e 3 none, Cond.methodLink RJ2 48 yJ2_length_9d52b, Cond.static yJ2_length_9d52b]
def wsJ0_init_db425_r4 : List Cond := [Cond.code yJ2_length_9d52b cJ2_length_9d52b 1 (some .int), Cond.methodLink RJ2 419 yJ0_checkBoundsOffCount_cabcc, Cond.static yJ0_checkBoundsOffCount_cabcc, Cond.initialized RJ0, Cond.code yJ0_checkBoundsOffCount_cabcc cJ0_checkBoundsOffCount_cabcc 3 (some .int), Cond.fieldLink RJ0 1053 "jdk/internal/util/Preconditions" "SIOOBE_FORMATTER" "Ljava/util/function/BiFunction;", Cond.methodLink RJ0 1065 yJ3_checkFromIndexSize_8c36e, Cond.static yJ3_checkFromIndexSize_8c36e, Cond.initialized RJ3, Cond.code yJ3_checkFromIndexSize_8c36e cJ3_checkFromIndexSize_8c36e 4 (some .int), Cond.methodLink RJ2 71 yJ2_getChar_3b067, Cond.static yJ2_getChar_3b067, Cond.code yJ2_getChar_3b067 cJ2_getChar_3b067 2 (some .char), Cond.fieldLink RJ2 44 "java/lang/StringUTF16" "$assertionsDisabled" "Z", Cond.fieldLink RJ2 59 "java/lang/StringUTF16" "HI_BYTE_SHIFT" "I", Cond.fieldLink RJ2 63 "java/lang/StringUTF16" "LO_BYTE_SHIFT" "I", Cond.methodLink RJ2 11 yJ2_newBytesLength_0f7a4, Cond.static yJ2_newBytesLength_0f7a4, Cond.code yJ2_newBytesLength_0f7a4 cJ2_newBytesLength_0f7a4 1 (some .int), Cond.constant RJ2 20 (1073741823), Cond.methodLink RJ2 126 yJ7_copyOfRange_39247, Cond.methodLink RJ0 47 yJ2_coderFromArrayLen_85cad, Cond.static yJ2_coderFromArrayLen_85cad, Cond.code yJ2_coderFromArrayLen_85cad cJ2_coderFromArrayLen_85cad 2 (some .byte)]
def wsJ0_init_db425 : List Cond := .code yJ0_init_db425 cJ0_init_db425 5 none :: ((wsJ0_init_db425_r1 ++ (wsJ0_init_db425_r2 ++ (wsJ0_init_db425_r3 ++ wsJ0_init_db425_r4))) ++ wsJ00 ++ wsJ40)
def wsJ0_init_81219_r1 : List Cond := [Cond.methodLink RJ0 489 yJ0_init_db425, Cond.instanceMethod yJ0_init_db425, Cond.initialized RJ0, Cond.code yJ0_init_db425 cJ0_init_db425 5 none, Cond.methodLink RJ0 1 objectInit, Cond.instanceMethod objectInit, Cond.code objectInit ⟨#[0xb1]⟩ 1 none, Cond.fieldLink RJ0 15 "java/lang/String" "coder" "B", Cond.fieldLink RJ0 9 "java/lang/String" "value" "[B", Cond.fieldLink RJ0 38 "java/lang/String" "COMPACT_STRINGS" "Z", Cond.fieldLink RJ0 1048 "java/lang/AbstractStringBuilder" "maybeLatin1" "Z", Cond.methodLink RJ0 552 ⟨"java/lang/AbstractStringBuilder", "getValue", "()[B"⟩, Cond.sameMethod "java/lang/AbstractStringBuilder" "java/lang/AbstractStringBuilder" "getValue" "()[B", Cond.selects RJ4 ⟨"java/lang/AbstractStringBuilder", "getValue", "()[B"⟩ yJ5_getValue_6d5f1, Cond.instanceMethod yJ5_getValue_6d5f1, Cond.initialized RJ5, Cond.code yJ5_getValue_6d5f1 cJ5_getValue_6d5f1 1 (some (.array .byte)), Cond.fieldLink RJ5 15 "java/lang/AbstractStringBuilder" "value" "[B", Cond.methodLink RJ0 549 ⟨"java/lang/AbstractStringBuilder", "length", "()I"⟩, Cond.sameMethod "java/lang/AbstractStringBuilder" "java/lang/AbstractStringBuilder" "length" "()I", Cond.instanceMethod ⟨"java/lang/AbstractStringBuilder", "length", "()I"⟩, Cond.selects RJ4 ⟨"java/lang/AbstractStringBuilder", "length", "()I"⟩ yJ4_length_8abf5, Cond.instanceMethod yJ4_length_8abf5, Cond.initialized RJ4]
def wsJ0_init_81219_r2 : List Cond := [Cond.code yJ4_length_8abf5 cJ4_length_8abf5 1 (some .int), Cond.methodLink RJ4 343 yJ5_length_8abf5, Cond.superclass RJ4 RJ5, Cond.instanceMethod yJ5_length_8abf5, Cond.code yJ5_length_8abf5 cJ5_length_8abf5 1 (some .int), Cond.fieldLink RJ5 79 "java/lang/AbstractStringBuilder" "count" "I", Cond.methodLink RJ0 1047 ⟨"java/lang/AbstractStringBuilder", "isLatin1", "()Z"⟩, Cond.sameMethod "java/lang/AbstractStringBuilder" "java/lang/AbstractStringBuilder" "isLatin1" "()Z", Cond.selects RJ4 ⟨"java/lang/AbstractStringBuilder", "isLatin1", "()Z"⟩ yJ5_isLatin1_aae02, Cond.instanceMethod yJ5_isLatin1_aae02, Cond.code yJ5_isLatin1_aae02 cJ5_isLatin1_aae02 1 (some .boolean), Cond.fieldLink RJ5 18 "java/lang/String" "COMPACT_STRINGS" "Z", Cond.fieldLink RJ5 22 "java/lang/AbstractStringBuilder" "coder" "B", Cond.methodLink RJ0 54 yJ7_copyOfRange_39247, Cond.static yJ7_copyOfRange_39247, Cond.initialized RJ7, Cond.code yJ7_copyOfRange_39247 cJ7_copyOfRange_39247 3 (some (.array .byte)), Cond.methodLink RJ7 310 ⟨"[B", "clone", "()Ljava/lang/Object;"⟩, Cond.sameMethod "[B" "java/lang/Object" "clone" "()Ljava/lang/Object;", Cond.native ⟨"java/lang/Object", "clone", "()Ljava/lang/Object;"⟩, Cond.instanceMethod ⟨"java/lang/Object", "clone", "()Ljava/lang/Object;"⟩, Cond.selects "[B" ⟨"[B", "clone", "()Ljava/lang/Object;"⟩ ⟨"java/lang/Object", "clone", "()Ljava/lang/Object;"⟩, Cond.classLink RJ7 311 "[B", Cond.methodLink RJ7 339 yJ7_copyOfRangeByte_39247]
def wsJ0_init_81219_r3 : List Cond := [Cond.static yJ7_copyOfRangeByte_39247, Cond.code yJ7_copyOfRangeByte_39247 cJ7_copyOfRangeByte_39247 5 (some (.array .byte)), Cond.arrayClass .byte, Cond.methodLink RJ7 304 Lib.Math.min.name, Cond.static Lib.Math.min.name, Cond.initialized "java/lang/Math", Cond.code Lib.Math.min.name Lib.Math.min.code 2 (some .int), Cond.methodLink RJ7 150 arraycopyName, Cond.native arraycopyName, Cond.static arraycopyName, Cond.initialized "java/lang/System", Cond.methodLink RJ7 343 yJ7_checkLength_df160, Cond.static yJ7_checkLength_df160, Cond.code yJ7_checkLength_df160 cJ7_checkLength_df160 2 none, Cond.classLink RJ7 45 RJ4, Cond.instantiable RJ4 4, Cond.methodLink RJ0 1051 yJ2_compress_39247, Cond.static yJ2_compress_39247, Cond.initialized RJ2, Cond.code yJ2_compress_39247 cJ2_compress_39247 6 (some (.array .byte)), Cond.methodLink RJ2 123 yJ2_compress_5af95, Cond.static yJ2_compress_5af95, Cond.code yJ2_compress_5af95 cJ2_compress_5af95 7 (some .int), Cond.methodLink RJ2 173 yJ2_checkBoundsOffCount_d044e]
def wsJ0_init_81219_r4 : List Cond := [Cond.static yJ2_checkBoundsOffCount_d044e, Cond.code yJ2_checkBoundsOffCount_d044e cJ2_checkBoundsOffCount_d044e 3 none, Cond.methodLink RJ2 48 yJ2_length_9d52b, Cond.static yJ2_length_9d52b, Cond.code yJ2_length_9d52b cJ2_length_9d52b 1 (some .int), Cond.methodLink RJ2 419 yJ0_checkBoundsOffCount_cabcc, Cond.static yJ0_checkBoundsOffCount_cabcc, Cond.code yJ0_checkBoundsOffCount_cabcc cJ0_checkBoundsOffCount_cabcc 3 (some .int), Cond.fieldLink RJ0 1053 "jdk/internal/util/Preconditions" "SIOOBE_FORMATTER" "Ljava/util/function/BiFunction;", Cond.methodLink RJ0 1065 yJ3_checkFromIndexSize_8c36e, Cond.static yJ3_checkFromIndexSize_8c36e, Cond.initialized RJ3, Cond.code yJ3_checkFromIndexSize_8c36e cJ3_checkFromIndexSize_8c36e 4 (some .int), Cond.methodLink RJ2 71 yJ2_getChar_3b067, Cond.static yJ2_getChar_3b067, Cond.code yJ2_getChar_3b067 cJ2_getChar_3b067 2 (some .char), Cond.fieldLink RJ2 44 "java/lang/StringUTF16" "$assertionsDisabled" "Z", Cond.fieldLink RJ2 59 "java/lang/StringUTF16" "HI_BYTE_SHIFT" "I", Cond.fieldLink RJ2 63 "java/lang/StringUTF16" "LO_BYTE_SHIFT" "I", Cond.methodLink RJ2 11 yJ2_newBytesLength_0f7a4, Cond.static yJ2_newBytesLength_0f7a4, Cond.code yJ2_newBytesLength_0f7a4 cJ2_newBytesLength_0f7a4 1 (some .int), Cond.constant RJ2 20 (1073741823), Cond.methodLink RJ2 126 yJ7_copyOfRange_39247]
def wsJ0_init_81219_r5 : List Cond := [Cond.methodLink RJ0 47 yJ2_coderFromArrayLen_85cad, Cond.static yJ2_coderFromArrayLen_85cad, Cond.code yJ2_coderFromArrayLen_85cad cJ2_coderFromArrayLen_85cad 2 (some .byte)]
def wsJ0_init_81219 : List Cond := .code yJ0_init_81219 cJ0_init_81219 2 none :: ((wsJ0_init_81219_r1 ++ (wsJ0_init_81219_r2 ++ (wsJ0_init_81219_r3 ++ (wsJ0_init_81219_r4 ++ wsJ0_init_81219_r5)))) ++ wsJ00 ++ wsJ40)
theorem dX0_init_0 : decode cX0_init 0 = .ok (.aload_n 0, 1) := by decide +kernel
theorem dX0_init_1 : decode cX0_init 1 = .ok (.invokespecial 3, 3) := by decide +kernel
theorem dX0_init_4 : decode cX0_init 4 = .ok (.aload_n 0, 1) := by decide +kernel
theorem dX0_init_5 : decode cX0_init 5 = .ok (.iconst 2, 1) := by decide +kernel
theorem dX0_init_6 : decode cX0_init 6 = .ok (.newarray .int, 2) := by decide +kernel
theorem dX0_init_8 : decode cX0_init 8 = .ok (.putfield 9, 3) := by decide +kernel
theorem dX0_init_11 : decode cX0_init 11 = .ok (.aload_n 0, 1) := by decide +kernel
theorem dX0_init_12 : decode cX0_init 12 = .ok (.bipush 10, 2) := by decide +kernel
theorem dX0_init_14 : decode cX0_init 14 = .ok (.newarray .int, 2) := by decide +kernel
theorem dX0_init_16 : decode cX0_init 16 = .ok (.putfield 15, 3) := by decide +kernel
theorem dX0_init_19 : decode cX0_init 19 = .ok (.aload_n 0, 1) := by decide +kernel
theorem dX0_init_20 : decode cX0_init 20 = .ok (.bipush 20, 2) := by decide +kernel
theorem dX0_init_22 : decode cX0_init 22 = .ok (.newarray .int, 2) := by decide +kernel
theorem dX0_init_24 : decode cX0_init 24 = .ok (.putfield 18, 3) := by decide +kernel
theorem dX0_init_27 : decode cX0_init 27 = .ok (.return_, 1) := by decide +kernel
set_option maxRecDepth 20000 in
theorem ggX0_take_X0_join : GoodIn wsX0_take wsX0_join := goodIn_r _ [16, 8, 26, 27, 28, 29, 30] (by decide +kernel) (by decide +kernel)
set_option maxRecDepth 20000 in
theorem gX0_take_X0_join : GoodIn wsX0_take (wsV RX0 46 RX0 yX0_join wsX0_join) := goodIn_app (goodIn_of _ (by decide +kernel)) ggX0_take_X0_join
theorem dX0_take_0 : decode cX0_take 0 = .ok (.aload_n 0, 1) := by decide +kernel
theorem dX0_take_1 : decode cX0_take 1 = .ok (.aload_n 1, 1) := by decide +kernel
theorem dX0_take_2 : decode cX0_take 2 = .ok (.getfield 21, 3) := by decide +kernel
theorem dX0_take_5 : decode cX0_take 5 = .ok (.putfield 27, 3) := by decide +kernel
theorem dX0_take_8 : decode cX0_take 8 = .ok (.aload_n 0, 1) := by decide +kernel
theorem dX0_take_9 : decode cX0_take 9 = .ok (.iconst 1, 1) := by decide +kernel
theorem dX0_take_10 : decode cX0_take 10 = .ok (.aload_n 0, 1) := by decide +kernel
theorem dX0_take_11 : decode cX0_take 11 = .ok (.getfield 27, 3) := by decide +kernel
theorem dX0_take_14 : decode cX0_take 14 = .ok (.ishl, 1) := by decide +kernel
theorem dX0_take_15 : decode cX0_take 15 = .ok (.iconst 1, 1) := by decide +kernel
theorem dX0_take_16 : decode cX0_take 16 = .ok (.isub, 1) := by decide +kernel
theorem dX0_take_17 : decode cX0_take 17 = .ok (.putfield 28, 3) := by decide +kernel
theorem dX0_take_20 : decode cX0_take 20 = .ok (.aload_n 0, 1) := by decide +kernel
theorem dX0_take_21 : decode cX0_take 21 = .ok (.getfield 9, 3) := by decide +kernel
theorem dX0_take_24 : decode cX0_take 24 = .ok (.iconst 1, 1) := by decide +kernel
theorem dX0_take_25 : decode cX0_take 25 = .ok (.aload_n 1, 1) := by decide +kernel
theorem dX0_take_26 : decode cX0_take 26 = .ok (.getfield 31, 3) := by decide +kernel
theorem dX0_take_29 : decode cX0_take 29 = .ok (.aload_n 0, 1) := by decide +kernel
theorem dX0_take_30 : decode cX0_take 30 = .ok (.getfield 28, 3) := by decide +kernel
theorem dX0_take_33 : decode cX0_take 33 = .ok (.iand, 1) := by decide +kernel
theorem dX0_take_34 : decode cX0_take 34 = .ok (.iastore, 1) := by decide +kernel
theorem dX0_take_35 : decode cX0_take 35 = .ok (.aload_n 0, 1) := by decide +kernel
theorem dX0_take_36 : decode cX0_take 36 = .ok (.getfield 9, 3) := by decide +kernel
theorem dX0_take_39 : decode cX0_take 39 = .ok (.iconst 0, 1) := by decide +kernel
theorem dX0_take_40 : decode cX0_take 40 = .ok (.aload_n 0, 1) := by decide +kernel
theorem dX0_take_41 : decode cX0_take 41 = .ok (.getfield 28, 3) := by decide +kernel
theorem dX0_take_44 : decode cX0_take 44 = .ok (.aload_n 1, 1) := by decide +kernel
theorem dX0_take_45 : decode cX0_take 45 = .ok (.getfield 31, 3) := by decide +kernel
theorem dX0_take_48 : decode cX0_take 48 = .ok (.iconst (-1), 1) := by decide +kernel
theorem dX0_take_49 : decode cX0_take 49 = .ok (.ixor, 1) := by decide +kernel
theorem dX0_take_50 : decode cX0_take 50 = .ok (.iand, 1) := by decide +kernel
theorem dX0_take_51 : decode cX0_take 51 = .ok (.iastore, 1) := by decide +kernel
theorem dX0_take_52 : decode cX0_take 52 = .ok (.iconst 0, 1) := by decide +kernel
theorem dX0_take_53 : decode cX0_take 53 = .ok (.istore_n 2, 1) := by decide +kernel
theorem dX0_take_54 : decode cX0_take 54 = .ok (.iload_n 2, 1) := by decide +kernel
theorem dX0_take_55 : decode cX0_take 55 = .ok (.bipush 10, 2) := by decide +kernel
theorem dX0_take_57 : decode cX0_take 57 = .ok (.if_icmp .ge 16, 3) := by decide +kernel
theorem dX0_take_60 : decode cX0_take 60 = .ok (.aload_n 0, 1) := by decide +kernel
theorem dX0_take_61 : decode cX0_take 61 = .ok (.getfield 15, 3) := by decide +kernel
theorem dX0_take_64 : decode cX0_take 64 = .ok (.iload_n 2, 1) := by decide +kernel
theorem dX0_take_65 : decode cX0_take 65 = .ok (.iconst 0, 1) := by decide +kernel
theorem dX0_take_66 : decode cX0_take 66 = .ok (.iastore, 1) := by decide +kernel
theorem dX0_take_67 : decode cX0_take 67 = .ok (.iinc 2 1, 3) := by decide +kernel
theorem dX0_take_70 : decode cX0_take 70 = .ok (.goto (-16), 3) := by decide +kernel
theorem dX0_take_73 : decode cX0_take 73 = .ok (.iconst 0, 1) := by decide +kernel
theorem dX0_take_74 : decode cX0_take 74 = .ok (.istore_n 2, 1) := by decide +kernel
theorem dX0_take_75 : decode cX0_take 75 = .ok (.iload_n 2, 1) := by decide +kernel
theorem dX0_take_76 : decode cX0_take 76 = .ok (.aload_n 0, 1) := by decide +kernel
theorem dX0_take_77 : decode cX0_take 77 = .ok (.getfield 27, 3) := by decide +kernel
theorem dX0_take_80 : decode cX0_take 80 = .ok (.if_icmp .ge 33, 3) := by decide +kernel
theorem dX0_take_83 : decode cX0_take 83 = .ok (.aload_n 0, 1) := by decide +kernel
theorem dX0_take_84 : decode cX0_take 84 = .ok (.getfield 15, 3) := by decide +kernel
theorem dX0_take_87 : decode cX0_take 87 = .ok (.aload_n 1, 1) := by decide +kernel
theorem dX0_take_88 : decode cX0_take 88 = .ok (.getfield 34, 3) := by decide +kernel
theorem dX0_take_91 : decode cX0_take 91 = .ok (.iload_n 2, 1) := by decide +kernel
theorem dX0_take_92 : decode cX0_take 92 = .ok (.iaload, 1) := by decide +kernel
theorem dX0_take_93 : decode cX0_take 93 = .ok (.dup2, 1) := by decide +kernel
theorem dX0_take_94 : decode cX0_take 94 = .ok (.iaload, 1) := by decide +kernel
theorem dX0_take_95 : decode cX0_take 95 = .ok (.iconst 1, 1) := by decide +kernel
theorem dX0_take_96 : decode cX0_take 96 = .ok (.iload_n 2, 1) := by decide +kernel
theorem dX0_take_97 : decode cX0_take 97 = .ok (.ishl, 1) := by decide +kernel
theorem dX0_take_98 : decode cX0_take 98 = .ok (.ior, 1) := by decide +kernel
theorem dX0_take_99 : decode cX0_take 99 = .ok (.iastore, 1) := by decide +kernel
theorem dX0_take_100 : decode cX0_take 100 = .ok (.aload_n 0, 1) := by decide +kernel
theorem dX0_take_101 : decode cX0_take 101 = .ok (.getfield 18, 3) := by decide +kernel
theorem dX0_take_104 : decode cX0_take 104 = .ok (.iload_n 2, 1) := by decide +kernel
theorem dX0_take_105 : decode cX0_take 105 = .ok (.iconst 0, 1) := by decide +kernel
theorem dX0_take_106 : decode cX0_take 106 = .ok (.iastore, 1) := by decide +kernel
theorem dX0_take_107 : decode cX0_take 107 = .ok (.iinc 2 1, 3) := by decide +kernel
theorem dX0_take_110 : decode cX0_take 110 = .ok (.goto (-35), 3) := by decide +kernel
theorem dX0_take_113 : decode cX0_take 113 = .ok (.iconst 0, 1) := by decide +kernel
theorem dX0_take_114 : decode cX0_take 114 = .ok (.istore_n 2, 1) := by decide +kernel
theorem dX0_take_115 : decode cX0_take 115 = .ok (.iload_n 2, 1) := by decide +kernel
theorem dX0_take_116 : decode cX0_take 116 = .ok (.aload_n 1, 1) := by decide +kernel
theorem dX0_take_117 : decode cX0_take 117 = .ok (.getfield 37, 3) := by decide +kernel
theorem dX0_take_120 : decode cX0_take 120 = .ok (.if_icmp .ge 25, 3) := by decide +kernel
theorem dX0_take_123 : decode cX0_take 123 = .ok (.aload_n 0, 1) := by decide +kernel
theorem dX0_take_124 : decode cX0_take 124 = .ok (.aload_n 1, 1) := by decide +kernel
theorem dX0_take_125 : decode cX0_take 125 = .ok (.getfield 40, 3) := by decide +kernel
theorem dX0_take_128 : decode cX0_take 128 = .ok (.iload_n 2, 1) := by decide +kernel
theorem dX0_take_129 : decode cX0_take 129 = .ok (.iaload, 1) := by decide +kernel
theorem dX0_take_130 : decode cX0_take 130 = .ok (.aload_n 1, 1) := by decide +kernel
theorem dX0_take_131 : decode cX0_take 131 = .ok (.getfield 43, 3) := by decide +kernel
theorem dX0_take_134 : decode cX0_take 134 = .ok (.iload_n 2, 1) := by decide +kernel
theorem dX0_take_135 : decode cX0_take 135 = .ok (.iaload, 1) := by decide +kernel
theorem dX0_take_136 : decode cX0_take 136 = .ok (.invokevirtual 46, 3) := by decide +kernel
theorem dX0_take_139 : decode cX0_take 139 = .ok (.iinc 2 1, 3) := by decide +kernel
theorem dX0_take_142 : decode cX0_take 142 = .ok (.goto (-27), 3) := by decide +kernel
theorem dX0_take_145 : decode cX0_take 145 = .ok (.return_, 1) := by decide +kernel
theorem dX0_join_0 : decode cX0_join 0 = .ok (.aload_n 0, 1) := by decide +kernel
theorem dX0_join_1 : decode cX0_join 1 = .ok (.getfield 18, 3) := by decide +kernel
theorem dX0_join_4 : decode cX0_join 4 = .ok (.iload_n 1, 1) := by decide +kernel
theorem dX0_join_5 : decode cX0_join 5 = .ok (.dup2, 1) := by decide +kernel
theorem dX0_join_6 : decode cX0_join 6 = .ok (.iaload, 1) := by decide +kernel
theorem dX0_join_7 : decode cX0_join 7 = .ok (.iconst 1, 1) := by decide +kernel
theorem dX0_join_8 : decode cX0_join 8 = .ok (.iload_n 2, 1) := by decide +kernel
theorem dX0_join_9 : decode cX0_join 9 = .ok (.ishl, 1) := by decide +kernel
theorem dX0_join_10 : decode cX0_join 10 = .ok (.ior, 1) := by decide +kernel
theorem dX0_join_11 : decode cX0_join 11 = .ok (.iastore, 1) := by decide +kernel
theorem dX0_join_12 : decode cX0_join 12 = .ok (.return_, 1) := by decide +kernel
theorem dX0_cut_0 : decode cX0_cut 0 = .ok (.aload_n 0, 1) := by decide +kernel
theorem dX0_cut_1 : decode cX0_cut 1 = .ok (.getfield 18, 3) := by decide +kernel
theorem dX0_cut_4 : decode cX0_cut 4 = .ok (.iload_n 1, 1) := by decide +kernel
theorem dX0_cut_5 : decode cX0_cut 5 = .ok (.dup2, 1) := by decide +kernel
theorem dX0_cut_6 : decode cX0_cut 6 = .ok (.iaload, 1) := by decide +kernel
theorem dX0_cut_7 : decode cX0_cut 7 = .ok (.iconst 1, 1) := by decide +kernel
theorem dX0_cut_8 : decode cX0_cut 8 = .ok (.iload_n 2, 1) := by decide +kernel
theorem dX0_cut_9 : decode cX0_cut 9 = .ok (.ishl, 1) := by decide +kernel
theorem dX0_cut_10 : decode cX0_cut 10 = .ok (.iconst (-1), 1) := by decide +kernel
theorem dX0_cut_11 : decode cX0_cut 11 = .ok (.ixor, 1) := by decide +kernel
theorem dX0_cut_12 : decode cX0_cut 12 = .ok (.iand, 1) := by decide +kernel
theorem dX0_cut_13 : decode cX0_cut 13 = .ok (.iastore, 1) := by decide +kernel
theorem dX0_cut_14 : decode cX0_cut 14 = .ok (.return_, 1) := by decide +kernel
theorem dX0_changeOwner_0 : decode cX0_changeOwner 0 = .ok (.aload_n 0, 1) := by decide +kernel
theorem dX0_changeOwner_1 : decode cX0_changeOwner 1 = .ok (.getfield 9, 3) := by decide +kernel
theorem dX0_changeOwner_4 : decode cX0_changeOwner 4 = .ok (.iconst 0, 1) := by decide +kernel
theorem dX0_changeOwner_5 : decode cX0_changeOwner 5 = .ok (.dup2, 1) := by decide +kernel
theorem dX0_changeOwner_6 : decode cX0_changeOwner 6 = .ok (.iaload, 1) := by decide +kernel
theorem dX0_changeOwner_7 : decode cX0_changeOwner 7 = .ok (.iconst 1, 1) := by decide +kernel
theorem dX0_changeOwner_8 : decode cX0_changeOwner 8 = .ok (.iload_n 1, 1) := by decide +kernel
theorem dX0_changeOwner_9 : decode cX0_changeOwner 9 = .ok (.ishl, 1) := by decide +kernel
theorem dX0_changeOwner_10 : decode cX0_changeOwner 10 = .ok (.ixor, 1) := by decide +kernel
theorem dX0_changeOwner_11 : decode cX0_changeOwner 11 = .ok (.iastore, 1) := by decide +kernel
theorem dX0_changeOwner_12 : decode cX0_changeOwner 12 = .ok (.aload_n 0, 1) := by decide +kernel
theorem dX0_changeOwner_13 : decode cX0_changeOwner 13 = .ok (.getfield 9, 3) := by decide +kernel
theorem dX0_changeOwner_16 : decode cX0_changeOwner 16 = .ok (.iconst 1, 1) := by decide +kernel
theorem dX0_changeOwner_17 : decode cX0_changeOwner 17 = .ok (.dup2, 1) := by decide +kernel
theorem dX0_changeOwner_18 : decode cX0_changeOwner 18 = .ok (.iaload, 1) := by decide +kernel
theorem dX0_changeOwner_19 : decode cX0_changeOwner 19 = .ok (.iconst 1, 1) := by decide +kernel
theorem dX0_changeOwner_20 : decode cX0_changeOwner 20 = .ok (.iload_n 1, 1) := by decide +kernel
theorem dX0_changeOwner_21 : decode cX0_changeOwner 21 = .ok (.ishl, 1) := by decide +kernel
theorem dX0_changeOwner_22 : decode cX0_changeOwner 22 = .ok (.ixor, 1) := by decide +kernel
theorem dX0_changeOwner_23 : decode cX0_changeOwner 23 = .ok (.iastore, 1) := by decide +kernel
theorem dX0_changeOwner_24 : decode cX0_changeOwner 24 = .ok (.return_, 1) := by decide +kernel
theorem dX0_changeCall_0 : decode cX0_changeCall 0 = .ok (.iconst 0, 1) := by decide +kernel
theorem dX0_changeCall_1 : decode cX0_changeCall 1 = .ok (.istore_n 3, 1) := by decide +kernel
theorem dX0_changeCall_2 : decode cX0_changeCall 2 = .ok (.iload_n 3, 1) := by decide +kernel
theorem dX0_changeCall_3 : decode cX0_changeCall 3 = .ok (.bipush 10, 2) := by decide +kernel
theorem dX0_changeCall_5 : decode cX0_changeCall 5 = .ok (.if_icmp .ge 23, 3) := by decide +kernel
theorem dX0_changeCall_8 : decode cX0_changeCall 8 = .ok (.aload_n 0, 1) := by decide +kernel
theorem dX0_changeCall_9 : decode cX0_changeCall 9 = .ok (.getfield 15, 3) := by decide +kernel
theorem dX0_changeCall_12 : decode cX0_changeCall 12 = .ok (.iload_n 3, 1) := by decide +kernel
theorem dX0_changeCall_13 : decode cX0_changeCall 13 = .ok (.dup2, 1) := by decide +kernel
theorem dX0_changeCall_14 : decode cX0_changeCall 14 = .ok (.iaload, 1) := by decide +kernel
theorem dX0_changeCall_15 : decode cX0_changeCall 15 = .ok (.iconst 1, 1) := by decide +kernel
theorem dX0_changeCall_16 : decode cX0_changeCall 16 = .ok (.iload_n 1, 1) := by decide +kernel
theorem dX0_changeCall_17 : decode cX0_changeCall 17 = .ok (.ishl, 1) := by decide +kernel
theorem dX0_changeCall_18 : decode cX0_changeCall 18 = .ok (.iconst (-1), 1) := by decide +kernel
theorem dX0_changeCall_19 : decode cX0_changeCall 19 = .ok (.ixor, 1) := by decide +kernel
theorem dX0_changeCall_20 : decode cX0_changeCall 20 = .ok (.iand, 1) := by decide +kernel
theorem dX0_changeCall_21 : decode cX0_changeCall 21 = .ok (.iastore, 1) := by decide +kernel
theorem dX0_changeCall_22 : decode cX0_changeCall 22 = .ok (.iinc 3 1, 3) := by decide +kernel
theorem dX0_changeCall_25 : decode cX0_changeCall 25 = .ok (.goto (-23), 3) := by decide +kernel
theorem dX0_changeCall_28 : decode cX0_changeCall 28 = .ok (.aload_n 0, 1) := by decide +kernel
theorem dX0_changeCall_29 : decode cX0_changeCall 29 = .ok (.getfield 15, 3) := by decide +kernel
theorem dX0_changeCall_32 : decode cX0_changeCall 32 = .ok (.iload_n 2, 1) := by decide +kernel
theorem dX0_changeCall_33 : decode cX0_changeCall 33 = .ok (.dup2, 1) := by decide +kernel
theorem dX0_changeCall_34 : decode cX0_changeCall 34 = .ok (.iaload, 1) := by decide +kernel
theorem dX0_changeCall_35 : decode cX0_changeCall 35 = .ok (.iconst 1, 1) := by decide +kernel
theorem dX0_changeCall_36 : decode cX0_changeCall 36 = .ok (.iload_n 1, 1) := by decide +kernel
theorem dX0_changeCall_37 : decode cX0_changeCall 37 = .ok (.ishl, 1) := by decide +kernel
theorem dX0_changeCall_38 : decode cX0_changeCall 38 = .ok (.ior, 1) := by decide +kernel
theorem dX0_changeCall_39 : decode cX0_changeCall 39 = .ok (.iastore, 1) := by decide +kernel
theorem dX0_changeCall_40 : decode cX0_changeCall 40 = .ok (.return_, 1) := by decide +kernel
theorem dX0_differentCalls_0 : decode cX0_differentCalls 0 = .ok (.iconst 0, 1) := by decide +kernel
theorem dX0_differentCalls_1 : decode cX0_differentCalls 1 = .ok (.istore_n 1, 1) := by decide +kernel
theorem dX0_differentCalls_2 : decode cX0_differentCalls 2 = .ok (.iconst 0, 1) := by decide +kernel
theorem dX0_differentCalls_3 : decode cX0_differentCalls 3 = .ok (.istore_n 2, 1) := by decide +kernel
theorem dX0_differentCalls_4 : decode cX0_differentCalls 4 = .ok (.iload_n 2, 1) := by decide +kernel
theorem dX0_differentCalls_5 : decode cX0_differentCalls 5 = .ok (.bipush 10, 2) := by decide +kernel
theorem dX0_differentCalls_7 : decode cX0_differentCalls 7 = .ok (.if_icmp .ge 21, 3) := by decide +kernel
theorem dX0_differentCalls_10 : decode cX0_differentCalls 10 = .ok (.aload_n 0, 1) := by decide +kernel
theorem dX0_differentCalls_11 : decode cX0_differentCalls 11 = .ok (.getfield 15, 3) := by decide +kernel
theorem dX0_differentCalls_14 : decode cX0_differentCalls 14 = .ok (.iload_n 2, 1) := by decide +kernel
theorem dX0_differentCalls_15 : decode cX0_differentCalls 15 = .ok (.iaload, 1) := by decide +kernel
theorem dX0_differentCalls_16 : decode cX0_differentCalls 16 = .ok (.ifCond .eq 6, 3) := by decide +kernel
theorem dX0_differentCalls_19 : decode cX0_differentCalls 19 = .ok (.iinc 1 1, 3) := by decide +kernel
theorem dX0_differentCalls_22 : decode cX0_differentCalls 22 = .ok (.iinc 2 1, 3) := by decide +kernel
theorem dX0_differentCalls_25 : decode cX0_differentCalls 25 = .ok (.goto (-21), 3) := by decide +kernel
theorem dX0_differentCalls_28 : decode cX0_differentCalls 28 = .ok (.iload_n 1, 1) := by decide +kernel
theorem dX0_differentCalls_29 : decode cX0_differentCalls 29 = .ok (.ireturn, 1) := by decide +kernel
theorem dX0_deadEnds_0 : decode cX0_deadEnds 0 = .ok (.iconst 0, 1) := by decide +kernel
theorem dX0_deadEnds_1 : decode cX0_deadEnds 1 = .ok (.istore_n 1, 1) := by decide +kernel
theorem dX0_deadEnds_2 : decode cX0_deadEnds 2 = .ok (.iconst 0, 1) := by decide +kernel
theorem dX0_deadEnds_3 : decode cX0_deadEnds 3 = .ok (.istore_n 2, 1) := by decide +kernel
theorem dX0_deadEnds_4 : decode cX0_deadEnds 4 = .ok (.iload_n 2, 1) := by decide +kernel
theorem dX0_deadEnds_5 : decode cX0_deadEnds 5 = .ok (.aload_n 0, 1) := by decide +kernel
theorem dX0_deadEnds_6 : decode cX0_deadEnds 6 = .ok (.getfield 27, 3) := by decide +kernel
theorem dX0_deadEnds_9 : decode cX0_deadEnds 9 = .ok (.if_icmp .ge 24, 3) := by decide +kernel
theorem dX0_deadEnds_12 : decode cX0_deadEnds 12 = .ok (.aload_n 0, 1) := by decide +kernel
theorem dX0_deadEnds_13 : decode cX0_deadEnds 13 = .ok (.getfield 18, 3) := by decide +kernel
theorem dX0_deadEnds_16 : decode cX0_deadEnds 16 = .ok (.iload_n 2, 1) := by decide +kernel
theorem dX0_deadEnds_17 : decode cX0_deadEnds 17 = .ok (.iaload, 1) := by decide +kernel
theorem dX0_deadEnds_18 : decode cX0_deadEnds 18 = .ok (.ifCond .ne 9, 3) := by decide +kernel
theorem dX0_deadEnds_21 : decode cX0_deadEnds 21 = .ok (.iload_n 1, 1) := by decide +kernel
theorem dX0_deadEnds_22 : decode cX0_deadEnds 22 = .ok (.iconst 1, 1) := by decide +kernel
theorem dX0_deadEnds_23 : decode cX0_deadEnds 23 = .ok (.iload_n 2, 1) := by decide +kernel
theorem dX0_deadEnds_24 : decode cX0_deadEnds 24 = .ok (.ishl, 1) := by decide +kernel
theorem dX0_deadEnds_25 : decode cX0_deadEnds 25 = .ok (.ior, 1) := by decide +kernel
theorem dX0_deadEnds_26 : decode cX0_deadEnds 26 = .ok (.istore_n 1, 1) := by decide +kernel
theorem dX0_deadEnds_27 : decode cX0_deadEnds 27 = .ok (.iinc 2 1, 3) := by decide +kernel
theorem dX0_deadEnds_30 : decode cX0_deadEnds 30 = .ok (.goto (-26), 3) := by decide +kernel
theorem dX0_deadEnds_33 : decode cX0_deadEnds 33 = .ok (.iload_n 1, 1) := by decide +kernel
theorem dX0_deadEnds_34 : decode cX0_deadEnds 34 = .ok (.ireturn, 1) := by decide +kernel
theorem dX0_before_0 : decode cX0_before 0 = .ok (.iconst 0, 1) := by decide +kernel
theorem dX0_before_1 : decode cX0_before 1 = .ok (.istore 5, 2) := by decide +kernel
theorem dX0_before_3 : decode cX0_before 3 = .ok (.iconst 0, 1) := by decide +kernel
theorem dX0_before_4 : decode cX0_before 4 = .ok (.istore 6, 2) := by decide +kernel
theorem dX0_before_6 : decode cX0_before 6 = .ok (.iload 6, 2) := by decide +kernel
theorem dX0_before_8 : decode cX0_before 8 = .ok (.aload_n 0, 1) := by decide +kernel
theorem dX0_before_9 : decode cX0_before 9 = .ok (.getfield 27, 3) := by decide +kernel
theorem dX0_before_12 : decode cX0_before 12 = .ok (.if_icmp .ge 81, 3) := by decide +kernel
theorem dX0_before_15 : decode cX0_before 15 = .ok (.iconst 1, 1) := by decide +kernel
theorem dX0_before_16 : decode cX0_before 16 = .ok (.iload 6, 2) := by decide +kernel
theorem dX0_before_18 : decode cX0_before 18 = .ok (.ishl, 1) := by decide +kernel
theorem dX0_before_19 : decode cX0_before 19 = .ok (.istore 7, 2) := by decide +kernel
theorem dX0_before_21 : decode cX0_before 21 = .ok (.aload_n 0, 1) := by decide +kernel
theorem dX0_before_22 : decode cX0_before 22 = .ok (.getfield 18, 3) := by decide +kernel
theorem dX0_before_25 : decode cX0_before 25 = .ok (.iload 6, 2) := by decide +kernel
theorem dX0_before_27 : decode cX0_before 27 = .ok (.iaload, 1) := by decide +kernel
theorem dX0_before_28 : decode cX0_before 28 = .ok (.iload_n 3, 1) := by decide +kernel
theorem dX0_before_29 : decode cX0_before 29 = .ok (.iand, 1) := by decide +kernel
theorem dX0_before_30 : decode cX0_before 30 = .ok (.istore 8, 2) := by decide +kernel
theorem dX0_before_32 : decode cX0_before 32 = .ok (.iload 4, 2) := by decide +kernel
theorem dX0_before_34 : decode cX0_before 34 = .ok (.iload 7, 2) := by decide +kernel
theorem dX0_before_36 : decode cX0_before 36 = .ok (.iand, 1) := by decide +kernel
theorem dX0_before_37 : decode cX0_before 37 = .ok (.ifCond .eq 50, 3) := by decide +kernel
theorem dX0_before_40 : decode cX0_before 40 = .ok (.iload 8, 2) := by decide +kernel
theorem dX0_before_42 : decode cX0_before 42 = .ok (.iload_n 2, 1) := by decide +kernel
theorem dX0_before_43 : decode cX0_before 43 = .ok (.iand, 1) := by decide +kernel
theorem dX0_before_44 : decode cX0_before 44 = .ok (.ifCond .eq 43, 3) := by decide +kernel
theorem dX0_before_47 : decode cX0_before 47 = .ok (.aload_n 0, 1) := by decide +kernel
theorem dX0_before_48 : decode cX0_before 48 = .ok (.getfield 9, 3) := by decide +kernel
theorem dX0_before_51 : decode cX0_before 51 = .ok (.iload_n 1, 1) := by decide +kernel
theorem dX0_before_52 : decode cX0_before 52 = .ok (.iaload, 1) := by decide +kernel
theorem dX0_before_53 : decode cX0_before 53 = .ok (.iload 7, 2) := by decide +kernel
theorem dX0_before_55 : decode cX0_before 55 = .ok (.iand, 1) := by decide +kernel
theorem dX0_before_56 : decode cX0_before 56 = .ok (.ifCond .eq 7, 3) := by decide +kernel
theorem dX0_before_59 : decode cX0_before 59 = .ok (.iconst 1, 1) := by decide +kernel
theorem dX0_before_60 : decode cX0_before 60 = .ok (.goto 4, 3) := by decide +kernel
theorem dX0_before_63 : decode cX0_before 63 = .ok (.iconst 0, 1) := by decide +kernel
theorem dX0_before_64 : decode cX0_before 64 = .ok (.istore 9, 2) := by decide +kernel
theorem dX0_before_66 : decode cX0_before 66 = .ok (.iload 9, 2) := by decide +kernel
theorem dX0_before_68 : decode cX0_before 68 = .ok (.ifCond .ne 12, 3) := by decide +kernel
theorem dX0_before_71 : decode cX0_before 71 = .ok (.iload 8, 2) := by decide +kernel
theorem dX0_before_73 : decode cX0_before 73 = .ok (.iload_n 2, 1) := by decide +kernel
theorem dX0_before_74 : decode cX0_before 74 = .ok (.iconst (-1), 1) := by decide +kernel
theorem dX0_before_75 : decode cX0_before 75 = .ok (.ixor, 1) := by decide +kernel
theorem dX0_before_76 : decode cX0_before 76 = .ok (.iand, 1) := by decide +kernel
theorem dX0_before_77 : decode cX0_before 77 = .ok (.ifCond .ne 10, 3) := by decide +kernel
theorem dX0_before_80 : decode cX0_before 80 = .ok (.iload 5, 2) := by decide +kernel
theorem dX0_before_82 : decode cX0_before 82 = .ok (.iload 7, 2) := by decide +kernel
theorem dX0_before_84 : decode cX0_before 84 = .ok (.ior, 1) := by decide +kernel
theorem dX0_before_85 : decode cX0_before 85 = .ok (.istore 5, 2) := by decide +kernel
theorem dX0_before_87 : decode cX0_before 87 = .ok (.iinc 6 1, 3) := by decide +kernel
theorem dX0_before_90 : decode cX0_before 90 = .ok (.goto (-84), 3) := by decide +kernel
theorem dX0_before_93 : decode cX0_before 93 = .ok (.iload 5, 2) := by decide +kernel
theorem dX0_before_95 : decode cX0_before 95 = .ok (.ireturn, 1) := by decide +kernel
set_option maxRecDepth 20000 in
theorem ggX0_attract_X0_before : GoodIn wsX0_attract wsX0_before := goodIn_r _ [5, 6, 7, 8, 9, 10, 11, 12, 13] (by decide +kernel) (by decide +kernel)
set_option maxRecDepth 20000 in
theorem gX0_attract_X0_before : GoodIn wsX0_attract (wsV RX0 50 RX0 yX0_before wsX0_before) := goodIn_app (goodIn_of _ (by decide +kernel)) ggX0_attract_X0_before
theorem dX0_attract_0 : decode cX0_attract 0 = .ok (.iload_n 2, 1) := by decide +kernel
theorem dX0_attract_1 : decode cX0_attract 1 = .ok (.iload_n 3, 1) := by decide +kernel
theorem dX0_attract_2 : decode cX0_attract 2 = .ok (.iand, 1) := by decide +kernel
theorem dX0_attract_3 : decode cX0_attract 3 = .ok (.istore 4, 2) := by decide +kernel
theorem dX0_attract_5 : decode cX0_attract 5 = .ok (.iconst 0, 1) := by decide +kernel
theorem dX0_attract_6 : decode cX0_attract 6 = .ok (.istore 5, 2) := by decide +kernel
theorem dX0_attract_8 : decode cX0_attract 8 = .ok (.iload 5, 2) := by decide +kernel
theorem dX0_attract_10 : decode cX0_attract 10 = .ok (.bipush 20, 2) := by decide +kernel
theorem dX0_attract_12 : decode cX0_attract 12 = .ok (.if_icmp .ge 45, 3) := by decide +kernel
theorem dX0_attract_15 : decode cX0_attract 15 = .ok (.iload 4, 2) := by decide +kernel
theorem dX0_attract_17 : decode cX0_attract 17 = .ok (.ifCond .eq 40, 3) := by decide +kernel
theorem dX0_attract_20 : decode cX0_attract 20 = .ok (.aload_n 0, 1) := by decide +kernel
theorem dX0_attract_21 : decode cX0_attract 21 = .ok (.iload_n 1, 1) := by decide +kernel
theorem dX0_attract_22 : decode cX0_attract 22 = .ok (.iload 4, 2) := by decide +kernel
theorem dX0_attract_24 : decode cX0_attract 24 = .ok (.iload_n 3, 1) := by decide +kernel
theorem dX0_attract_25 : decode cX0_attract 25 = .ok (.iload_n 3, 1) := by decide +kernel
theorem dX0_attract_26 : decode cX0_attract 26 = .ok (.iload 4, 2) := by decide +kernel
theorem dX0_attract_28 : decode cX0_attract 28 = .ok (.iconst (-1), 1) := by decide +kernel
theorem dX0_attract_29 : decode cX0_attract 29 = .ok (.ixor, 1) := by decide +kernel
theorem dX0_attract_30 : decode cX0_attract 30 = .ok (.iand, 1) := by decide +kernel
theorem dX0_attract_31 : decode cX0_attract 31 = .ok (.invokevirtual 50, 3) := by decide +kernel
theorem dX0_attract_34 : decode cX0_attract 34 = .ok (.istore 6, 2) := by decide +kernel
theorem dX0_attract_36 : decode cX0_attract 36 = .ok (.iload 6, 2) := by decide +kernel
theorem dX0_attract_38 : decode cX0_attract 38 = .ok (.ifCond .ne 6, 3) := by decide +kernel
theorem dX0_attract_41 : decode cX0_attract 41 = .ok (.iload 4, 2) := by decide +kernel
theorem dX0_attract_43 : decode cX0_attract 43 = .ok (.ireturn, 1) := by decide +kernel
theorem dX0_attract_44 : decode cX0_attract 44 = .ok (.iload 4, 2) := by decide +kernel
theorem dX0_attract_46 : decode cX0_attract 46 = .ok (.iload 6, 2) := by decide +kernel
theorem dX0_attract_48 : decode cX0_attract 48 = .ok (.ior, 1) := by decide +kernel
theorem dX0_attract_49 : decode cX0_attract 49 = .ok (.istore 4, 2) := by decide +kernel
theorem dX0_attract_51 : decode cX0_attract 51 = .ok (.iinc 5 1, 3) := by decide +kernel
theorem dX0_attract_54 : decode cX0_attract 54 = .ok (.goto (-46), 3) := by decide +kernel
theorem dX0_attract_57 : decode cX0_attract 57 = .ok (.iload 4, 2) := by decide +kernel
theorem dX0_attract_59 : decode cX0_attract 59 = .ok (.ireturn, 1) := by decide +kernel
set_option maxRecDepth 20000 in
theorem ggX0_distance_X5_has : GoodIn wsX0_distance wsX5_has := goodIn_r _ [4] (by decide +kernel) (by decide +kernel)
set_option maxRecDepth 20000 in
theorem gX0_distance_X5_has_n54 : GoodIn wsX0_distance (wsX5_has) := ggX0_distance_X5_has
set_option maxRecDepth 20000 in
theorem ggX0_distance_X0_before : GoodIn wsX0_distance wsX0_before := goodIn_r _ [9, 10, 11, 12, 13, 14, 15, 16, 17] (by decide +kernel) (by decide +kernel)
set_option maxRecDepth 20000 in
theorem gX0_distance_X0_before : GoodIn wsX0_distance (wsV RX0 50 RX0 yX0_before wsX0_before) := goodIn_app (goodIn_of _ (by decide +kernel)) ggX0_distance_X0_before
theorem dX0_distance_0 : decode cX0_distance 0 = .ok (.iload_n 3, 1) := by decide +kernel
theorem dX0_distance_1 : decode cX0_distance 1 = .ok (.istore 4, 2) := by decide +kernel
theorem dX0_distance_3 : decode cX0_distance 3 = .ok (.iconst 0, 1) := by decide +kernel
theorem dX0_distance_4 : decode cX0_distance 4 = .ok (.istore 5, 2) := by decide +kernel
theorem dX0_distance_6 : decode cX0_distance 6 = .ok (.iload 5, 2) := by decide +kernel
theorem dX0_distance_8 : decode cX0_distance 8 = .ok (.bipush 20, 2) := by decide +kernel
theorem dX0_distance_10 : decode cX0_distance 10 = .ok (.if_icmp .gt 46, 3) := by decide +kernel
theorem dX0_distance_13 : decode cX0_distance 13 = .ok (.iload 4, 2) := by decide +kernel
theorem dX0_distance_15 : decode cX0_distance 15 = .ok (.iload_n 1, 1) := by decide +kernel
theorem dX0_distance_16 : decode cX0_distance 16 = .ok (.invokestatic 54, 3) := by decide +kernel
theorem dX0_distance_19 : decode cX0_distance 19 = .ok (.ifCond .eq 6, 3) := by decide +kernel
theorem dX0_distance_22 : decode cX0_distance 22 = .ok (.iload 5, 2) := by decide +kernel
theorem dX0_distance_24 : decode cX0_distance 24 = .ok (.ireturn, 1) := by decide +kernel
theorem dX0_distance_25 : decode cX0_distance 25 = .ok (.iload 4, 2) := by decide +kernel
theorem dX0_distance_27 : decode cX0_distance 27 = .ok (.aload_n 0, 1) := by decide +kernel
theorem dX0_distance_28 : decode cX0_distance 28 = .ok (.iload_n 2, 1) := by decide +kernel
theorem dX0_distance_29 : decode cX0_distance 29 = .ok (.iload 4, 2) := by decide +kernel
theorem dX0_distance_31 : decode cX0_distance 31 = .ok (.aload_n 0, 1) := by decide +kernel
theorem dX0_distance_32 : decode cX0_distance 32 = .ok (.getfield 28, 3) := by decide +kernel
theorem dX0_distance_35 : decode cX0_distance 35 = .ok (.aload_n 0, 1) := by decide +kernel
theorem dX0_distance_36 : decode cX0_distance 36 = .ok (.getfield 28, 3) := by decide +kernel
theorem dX0_distance_39 : decode cX0_distance 39 = .ok (.iload 4, 2) := by decide +kernel
theorem dX0_distance_41 : decode cX0_distance 41 = .ok (.iconst (-1), 1) := by decide +kernel
theorem dX0_distance_42 : decode cX0_distance 42 = .ok (.ixor, 1) := by decide +kernel
theorem dX0_distance_43 : decode cX0_distance 43 = .ok (.iand, 1) := by decide +kernel
theorem dX0_distance_44 : decode cX0_distance 44 = .ok (.invokevirtual 50, 3) := by decide +kernel
theorem dX0_distance_47 : decode cX0_distance 47 = .ok (.ior, 1) := by decide +kernel
theorem dX0_distance_48 : decode cX0_distance 48 = .ok (.istore 4, 2) := by decide +kernel
theorem dX0_distance_50 : decode cX0_distance 50 = .ok (.iinc 5 1, 3) := by decide +kernel
theorem dX0_distance_53 : decode cX0_distance 53 = .ok (.goto (-47), 3) := by decide +kernel
theorem dX0_distance_56 : decode cX0_distance 56 = .ok (.iconst (-1), 1) := by decide +kernel
theorem dX0_distance_57 : decode cX0_distance 57 = .ok (.ireturn, 1) := by decide +kernel
set_option maxRecDepth 20000 in
theorem ggX0_stayingIn_X0_deadEnds : GoodIn wsX0_stayingIn wsX0_deadEnds := goodIn_r _ [6, 7, 8, 14, 15, 16, 17, 18] (by decide +kernel) (by decide +kernel)
set_option maxRecDepth 20000 in
theorem gX0_stayingIn_X0_deadEnds : GoodIn wsX0_stayingIn (wsV RX0 58 RX0 yX0_deadEnds wsX0_deadEnds) := goodIn_app (goodIn_of _ (by decide +kernel)) ggX0_stayingIn_X0_deadEnds
set_option maxRecDepth 20000 in
theorem ggX0_stayingIn_X0_before : GoodIn wsX0_stayingIn wsX0_before := goodIn_r _ [12, 7, 8, 13, 14, 15, 16, 17, 18] (by decide +kernel) (by decide +kernel)
set_option maxRecDepth 20000 in
theorem gX0_stayingIn_X0_before : GoodIn wsX0_stayingIn (wsV RX0 50 RX0 yX0_before wsX0_before) := goodIn_app (goodIn_of _ (by decide +kernel)) ggX0_stayingIn_X0_before
theorem dX0_stayingIn_0 : decode cX0_stayingIn 0 = .ok (.aload_n 0, 1) := by decide +kernel
theorem dX0_stayingIn_1 : decode cX0_stayingIn 1 = .ok (.invokevirtual 58, 3) := by decide +kernel
theorem dX0_stayingIn_4 : decode cX0_stayingIn 4 = .ok (.istore_n 3, 1) := by decide +kernel
theorem dX0_stayingIn_5 : decode cX0_stayingIn 5 = .ok (.iload_n 2, 1) := by decide +kernel
theorem dX0_stayingIn_6 : decode cX0_stayingIn 6 = .ok (.istore 4, 2) := by decide +kernel
theorem dX0_stayingIn_8 : decode cX0_stayingIn 8 = .ok (.iconst 0, 1) := by decide +kernel
theorem dX0_stayingIn_9 : decode cX0_stayingIn 9 = .ok (.istore 5, 2) := by decide +kernel
theorem dX0_stayingIn_11 : decode cX0_stayingIn 11 = .ok (.iload 5, 2) := by decide +kernel
theorem dX0_stayingIn_13 : decode cX0_stayingIn 13 = .ok (.bipush 20, 2) := by decide +kernel
theorem dX0_stayingIn_15 : decode cX0_stayingIn 15 = .ok (.if_icmp .ge 43, 3) := by decide +kernel
theorem dX0_stayingIn_18 : decode cX0_stayingIn 18 = .ok (.aload_n 0, 1) := by decide +kernel
theorem dX0_stayingIn_19 : decode cX0_stayingIn 19 = .ok (.iload_n 1, 1) := by decide +kernel
theorem dX0_stayingIn_20 : decode cX0_stayingIn 20 = .ok (.iload 4, 2) := by decide +kernel
theorem dX0_stayingIn_22 : decode cX0_stayingIn 22 = .ok (.aload_n 0, 1) := by decide +kernel
theorem dX0_stayingIn_23 : decode cX0_stayingIn 23 = .ok (.getfield 28, 3) := by decide +kernel
theorem dX0_stayingIn_26 : decode cX0_stayingIn 26 = .ok (.iload 4, 2) := by decide +kernel
theorem dX0_stayingIn_28 : decode cX0_stayingIn 28 = .ok (.invokevirtual 50, 3) := by decide +kernel
theorem dX0_stayingIn_31 : decode cX0_stayingIn 31 = .ok (.iload 4, 2) := by decide +kernel
theorem dX0_stayingIn_33 : decode cX0_stayingIn 33 = .ok (.iload_n 3, 1) := by decide +kernel
theorem dX0_stayingIn_34 : decode cX0_stayingIn 34 = .ok (.iand, 1) := by decide +kernel
theorem dX0_stayingIn_35 : decode cX0_stayingIn 35 = .ok (.ior, 1) := by decide +kernel
theorem dX0_stayingIn_36 : decode cX0_stayingIn 36 = .ok (.istore 6, 2) := by decide +kernel
theorem dX0_stayingIn_38 : decode cX0_stayingIn 38 = .ok (.iload 6, 2) := by decide +kernel
theorem dX0_stayingIn_40 : decode cX0_stayingIn 40 = .ok (.iload 4, 2) := by decide +kernel
theorem dX0_stayingIn_42 : decode cX0_stayingIn 42 = .ok (.if_icmp .ne 6, 3) := by decide +kernel
theorem dX0_stayingIn_45 : decode cX0_stayingIn 45 = .ok (.iload 4, 2) := by decide +kernel
theorem dX0_stayingIn_47 : decode cX0_stayingIn 47 = .ok (.ireturn, 1) := by decide +kernel
theorem dX0_stayingIn_48 : decode cX0_stayingIn 48 = .ok (.iload 6, 2) := by decide +kernel
theorem dX0_stayingIn_50 : decode cX0_stayingIn 50 = .ok (.istore 4, 2) := by decide +kernel
theorem dX0_stayingIn_52 : decode cX0_stayingIn 52 = .ok (.iinc 5 1, 3) := by decide +kernel
theorem dX0_stayingIn_55 : decode cX0_stayingIn 55 = .ok (.goto (-44), 3) := by decide +kernel
theorem dX0_stayingIn_58 : decode cX0_stayingIn 58 = .ok (.iload 4, 2) := by decide +kernel
theorem dX0_stayingIn_60 : decode cX0_stayingIn 60 = .ok (.ireturn, 1) := by decide +kernel
set_option maxRecDepth 20000 in
theorem ggX0_comingBackTo_X0_before : GoodIn wsX0_comingBackTo wsX0_before := goodIn_r _ [6, 7, 8, 9, 14, 15, 16, 17, 18] (by decide +kernel) (by decide +kernel)
set_option maxRecDepth 20000 in
theorem gX0_comingBackTo_X0_before : GoodIn wsX0_comingBackTo (wsV RX0 50 RX0 yX0_before wsX0_before) := goodIn_app (goodIn_of _ (by decide +kernel)) ggX0_comingBackTo_X0_before
set_option maxRecDepth 20000 in
theorem ggX0_comingBackTo_X0_attract : GoodIn wsX0_comingBackTo wsX0_attract := goodIn_r _ [13, 2, 3, 4, 5, 6, 7, 8, 9, 14, 15, 16, 17, 18] (by decide +kernel) (by decide +kernel)
set_option maxRecDepth 20000 in
theorem gX0_comingBackTo_X0_attract : GoodIn wsX0_comingBackTo (wsV RX0 62 RX0 yX0_attract wsX0_attract) := goodIn_app (goodIn_of _ (by decide +kernel)) ggX0_comingBackTo_X0_attract
theorem dX0_comingBackTo_0 : decode cX0_comingBackTo 0 = .ok (.aload_n 0, 1) := by decide +kernel
theorem dX0_comingBackTo_1 : decode cX0_comingBackTo 1 = .ok (.getfield 28, 3) := by decide +kernel
theorem dX0_comingBackTo_4 : decode cX0_comingBackTo 4 = .ok (.istore_n 3, 1) := by decide +kernel
theorem dX0_comingBackTo_5 : decode cX0_comingBackTo 5 = .ok (.iconst 0, 1) := by decide +kernel
theorem dX0_comingBackTo_6 : decode cX0_comingBackTo 6 = .ok (.istore 4, 2) := by decide +kernel
theorem dX0_comingBackTo_8 : decode cX0_comingBackTo 8 = .ok (.iload 4, 2) := by decide +kernel
theorem dX0_comingBackTo_10 : decode cX0_comingBackTo 10 = .ok (.bipush 20, 2) := by decide +kernel
theorem dX0_comingBackTo_12 : decode cX0_comingBackTo 12 = .ok (.if_icmp .ge 46, 3) := by decide +kernel
theorem dX0_comingBackTo_15 : decode cX0_comingBackTo 15 = .ok (.aload_n 0, 1) := by decide +kernel
theorem dX0_comingBackTo_16 : decode cX0_comingBackTo 16 = .ok (.iload_n 1, 1) := by decide +kernel
theorem dX0_comingBackTo_17 : decode cX0_comingBackTo 17 = .ok (.iload_n 3, 1) := by decide +kernel
theorem dX0_comingBackTo_18 : decode cX0_comingBackTo 18 = .ok (.aload_n 0, 1) := by decide +kernel
theorem dX0_comingBackTo_19 : decode cX0_comingBackTo 19 = .ok (.getfield 28, 3) := by decide +kernel
theorem dX0_comingBackTo_22 : decode cX0_comingBackTo 22 = .ok (.iload_n 2, 1) := by decide +kernel
theorem dX0_comingBackTo_23 : decode cX0_comingBackTo 23 = .ok (.invokevirtual 50, 3) := by decide +kernel
theorem dX0_comingBackTo_26 : decode cX0_comingBackTo 26 = .ok (.istore 5, 2) := by decide +kernel
theorem dX0_comingBackTo_28 : decode cX0_comingBackTo 28 = .ok (.aload_n 0, 1) := by decide +kernel
theorem dX0_comingBackTo_29 : decode cX0_comingBackTo 29 = .ok (.iload_n 1, 1) := by decide +kernel
theorem dX0_comingBackTo_30 : decode cX0_comingBackTo 30 = .ok (.iload 5, 2) := by decide +kernel
theorem dX0_comingBackTo_32 : decode cX0_comingBackTo 32 = .ok (.aload_n 0, 1) := by decide +kernel
theorem dX0_comingBackTo_33 : decode cX0_comingBackTo 33 = .ok (.getfield 28, 3) := by decide +kernel
theorem dX0_comingBackTo_36 : decode cX0_comingBackTo 36 = .ok (.invokevirtual 62, 3) := by decide +kernel
theorem dX0_comingBackTo_39 : decode cX0_comingBackTo 39 = .ok (.istore 6, 2) := by decide +kernel
theorem dX0_comingBackTo_41 : decode cX0_comingBackTo 41 = .ok (.iload 6, 2) := by decide +kernel
theorem dX0_comingBackTo_43 : decode cX0_comingBackTo 43 = .ok (.iload_n 3, 1) := by decide +kernel
theorem dX0_comingBackTo_44 : decode cX0_comingBackTo 44 = .ok (.if_icmp .ne 5, 3) := by decide +kernel
theorem dX0_comingBackTo_47 : decode cX0_comingBackTo 47 = .ok (.iload_n 3, 1) := by decide +kernel
theorem dX0_comingBackTo_48 : decode cX0_comingBackTo 48 = .ok (.ireturn, 1) := by decide +kernel
theorem dX0_comingBackTo_49 : decode cX0_comingBackTo 49 = .ok (.iload 6, 2) := by decide +kernel
theorem dX0_comingBackTo_51 : decode cX0_comingBackTo 51 = .ok (.istore_n 3, 1) := by decide +kernel
theorem dX0_comingBackTo_52 : decode cX0_comingBackTo 52 = .ok (.iinc 4 1, 3) := by decide +kernel
theorem dX0_comingBackTo_55 : decode cX0_comingBackTo 55 = .ok (.goto (-47), 3) := by decide +kernel
theorem dX0_comingBackTo_58 : decode cX0_comingBackTo 58 = .ok (.iload_n 3, 1) := by decide +kernel
theorem dX0_comingBackTo_59 : decode cX0_comingBackTo 59 = .ok (.ireturn, 1) := by decide +kernel
set_option maxRecDepth 20000 in
theorem ggX0_isClosedFor_X0_before : GoodIn wsX0_isClosedFor wsX0_before := goodIn_r _ [7, 8, 9, 2, 14, 15, 16, 17, 18] (by decide +kernel) (by decide +kernel)
set_option maxRecDepth 20000 in
theorem gX0_isClosedFor_X0_before : GoodIn wsX0_isClosedFor (wsV RX0 50 RX0 yX0_before wsX0_before) := goodIn_app (goodIn_of _ (by decide +kernel)) ggX0_isClosedFor_X0_before
set_option maxRecDepth 20000 in
theorem ggX0_isClosedFor_X0_deadEnds : GoodIn wsX0_isClosedFor wsX0_deadEnds := goodIn_r _ [13, 8, 9, 14, 15, 16, 17, 18] (by decide +kernel) (by decide +kernel)
set_option maxRecDepth 20000 in
theorem gX0_isClosedFor_X0_deadEnds : GoodIn wsX0_isClosedFor (wsV RX0 58 RX0 yX0_deadEnds wsX0_deadEnds) := goodIn_app (goodIn_of _ (by decide +kernel)) ggX0_isClosedFor_X0_deadEnds
theorem dX0_isClosedFor_0 : decode cX0_isClosedFor 0 = .ok (.aload_n 0, 1) := by decide +kernel
theorem dX0_isClosedFor_1 : decode cX0_isClosedFor 1 = .ok (.iconst 1, 1) := by decide +kernel
theorem dX0_isClosedFor_2 : decode cX0_isClosedFor 2 = .ok (.iload_n 1, 1) := by decide +kernel
theorem dX0_isClosedFor_3 : decode cX0_isClosedFor 3 = .ok (.isub, 1) := by decide +kernel
theorem dX0_isClosedFor_4 : decode cX0_isClosedFor 4 = .ok (.iload_n 2, 1) := by decide +kernel
theorem dX0_isClosedFor_5 : decode cX0_isClosedFor 5 = .ok (.aload_n 0, 1) := by decide +kernel
theorem dX0_isClosedFor_6 : decode cX0_isClosedFor 6 = .ok (.getfield 28, 3) := by decide +kernel
theorem dX0_isClosedFor_9 : decode cX0_isClosedFor 9 = .ok (.iload_n 2, 1) := by decide +kernel
theorem dX0_isClosedFor_10 : decode cX0_isClosedFor 10 = .ok (.invokevirtual 50, 3) := by decide +kernel
theorem dX0_isClosedFor_13 : decode cX0_isClosedFor 13 = .ok (.aload_n 0, 1) := by decide +kernel
theorem dX0_isClosedFor_14 : decode cX0_isClosedFor 14 = .ok (.getfield 9, 3) := by decide +kernel
theorem dX0_isClosedFor_17 : decode cX0_isClosedFor 17 = .ok (.iload_n 1, 1) := by decide +kernel
theorem dX0_isClosedFor_18 : decode cX0_isClosedFor 18 = .ok (.iaload, 1) := by decide +kernel
theorem dX0_isClosedFor_19 : decode cX0_isClosedFor 19 = .ok (.aload_n 0, 1) := by decide +kernel
theorem dX0_isClosedFor_20 : decode cX0_isClosedFor 20 = .ok (.invokevirtual 58, 3) := by decide +kernel
theorem dX0_isClosedFor_23 : decode cX0_isClosedFor 23 = .ok (.iand, 1) := by decide +kernel
theorem dX0_isClosedFor_24 : decode cX0_isClosedFor 24 = .ok (.ior, 1) := by decide +kernel
theorem dX0_isClosedFor_25 : decode cX0_isClosedFor 25 = .ok (.istore_n 3, 1) := by decide +kernel
theorem dX0_isClosedFor_26 : decode cX0_isClosedFor 26 = .ok (.iload_n 2, 1) := by decide +kernel
theorem dX0_isClosedFor_27 : decode cX0_isClosedFor 27 = .ok (.iload_n 3, 1) := by decide +kernel
theorem dX0_isClosedFor_28 : decode cX0_isClosedFor 28 = .ok (.iconst (-1), 1) := by decide +kernel
theorem dX0_isClosedFor_29 : decode cX0_isClosedFor 29 = .ok (.ixor, 1) := by decide +kernel
theorem dX0_isClosedFor_30 : decode cX0_isClosedFor 30 = .ok (.iand, 1) := by decide +kernel
theorem dX0_isClosedFor_31 : decode cX0_isClosedFor 31 = .ok (.ifCond .ne 7, 3) := by decide +kernel
theorem dX0_isClosedFor_34 : decode cX0_isClosedFor 34 = .ok (.iconst 1, 1) := by decide +kernel
theorem dX0_isClosedFor_35 : decode cX0_isClosedFor 35 = .ok (.goto 4, 3) := by decide +kernel
theorem dX0_isClosedFor_38 : decode cX0_isClosedFor 38 = .ok (.iconst 0, 1) := by decide +kernel
theorem dX0_isClosedFor_39 : decode cX0_isClosedFor 39 = .ok (.ireturn, 1) := by decide +kernel
set_option maxRecDepth 20000 in
theorem ggX0_wonBy_X0_deadEnds : GoodIn wsX0_wonBy wsX0_deadEnds := goodIn_r _ [7, 8, 9, 26, 27, 28, 29, 30] (by decide +kernel) (by decide +kernel)
set_option maxRecDepth 20000 in
theorem gX0_wonBy_X0_deadEnds : GoodIn wsX0_wonBy (wsV RX0 58 RX0 yX0_deadEnds wsX0_deadEnds) := goodIn_app (goodIn_of _ (by decide +kernel)) ggX0_wonBy_X0_deadEnds
set_option maxRecDepth 20000 in
theorem ggX0_wonBy_X0_attract : GoodIn wsX0_wonBy wsX0_attract := goodIn_r _ [13, 14, 15, 16, 6, 17, 8, 9, 1, 26, 27, 28, 29, 30] (by decide +kernel) (by decide +kernel)
set_option maxRecDepth 20000 in
theorem gX0_wonBy_X0_attract : GoodIn wsX0_wonBy (wsV RX0 62 RX0 yX0_attract wsX0_attract) := goodIn_app (goodIn_of _ (by decide +kernel)) ggX0_wonBy_X0_attract
set_option maxRecDepth 20000 in
theorem ggX0_wonBy_X0_wonEndless : GoodIn wsX0_wonBy wsX0_wonEndless := goodIn_r _ [20, 21, 22, 23, 24, 6, 25, 10, 11, 12, 13, 14, 15, 16, 17, 8, 9, 1, 18, 19, 26, 27, 28, 29, 30] (by decide +kernel) (by decide +kernel)
set_option maxRecDepth 20000 in
theorem gX0_wonBy_X0_wonEndless : GoodIn wsX0_wonBy (va_wsS RX0 66 yX0_wonEndless wsX0_wonEndless) := goodIn_app (goodIn_of _ (by decide +kernel)) ggX0_wonBy_X0_wonEndless
theorem dX0_wonBy_0 : decode cX0_wonBy 0 = .ok (.aload_n 0, 1) := by decide +kernel
theorem dX0_wonBy_1 : decode cX0_wonBy 1 = .ok (.invokevirtual 58, 3) := by decide +kernel
theorem dX0_wonBy_4 : decode cX0_wonBy 4 = .ok (.istore_n 2, 1) := by decide +kernel
theorem dX0_wonBy_5 : decode cX0_wonBy 5 = .ok (.aload_n 0, 1) := by decide +kernel
theorem dX0_wonBy_6 : decode cX0_wonBy 6 = .ok (.iconst 0, 1) := by decide +kernel
theorem dX0_wonBy_7 : decode cX0_wonBy 7 = .ok (.aload_n 0, 1) := by decide +kernel
theorem dX0_wonBy_8 : decode cX0_wonBy 8 = .ok (.getfield 9, 3) := by decide +kernel
theorem dX0_wonBy_11 : decode cX0_wonBy 11 = .ok (.iconst 1, 1) := by decide +kernel
theorem dX0_wonBy_12 : decode cX0_wonBy 12 = .ok (.iaload, 1) := by decide +kernel
theorem dX0_wonBy_13 : decode cX0_wonBy 13 = .ok (.iload_n 2, 1) := by decide +kernel
theorem dX0_wonBy_14 : decode cX0_wonBy 14 = .ok (.iand, 1) := by decide +kernel
theorem dX0_wonBy_15 : decode cX0_wonBy 15 = .ok (.aload_n 0, 1) := by decide +kernel
theorem dX0_wonBy_16 : decode cX0_wonBy 16 = .ok (.getfield 28, 3) := by decide +kernel
theorem dX0_wonBy_19 : decode cX0_wonBy 19 = .ok (.invokevirtual 62, 3) := by decide +kernel
theorem dX0_wonBy_22 : decode cX0_wonBy 22 = .ok (.istore_n 3, 1) := by decide +kernel
theorem dX0_wonBy_23 : decode cX0_wonBy 23 = .ok (.aload_n 0, 1) := by decide +kernel
theorem dX0_wonBy_24 : decode cX0_wonBy 24 = .ok (.getfield 28, 3) := by decide +kernel
theorem dX0_wonBy_27 : decode cX0_wonBy 27 = .ok (.iload_n 3, 1) := by decide +kernel
theorem dX0_wonBy_28 : decode cX0_wonBy 28 = .ok (.iconst (-1), 1) := by decide +kernel
theorem dX0_wonBy_29 : decode cX0_wonBy 29 = .ok (.ixor, 1) := by decide +kernel
theorem dX0_wonBy_30 : decode cX0_wonBy 30 = .ok (.iand, 1) := by decide +kernel
theorem dX0_wonBy_31 : decode cX0_wonBy 31 = .ok (.istore 4, 2) := by decide +kernel
theorem dX0_wonBy_33 : decode cX0_wonBy 33 = .ok (.iload 4, 2) := by decide +kernel
theorem dX0_wonBy_35 : decode cX0_wonBy 35 = .ok (.aload_n 0, 1) := by decide +kernel
theorem dX0_wonBy_36 : decode cX0_wonBy 36 = .ok (.iconst 1, 1) := by decide +kernel
theorem dX0_wonBy_37 : decode cX0_wonBy 37 = .ok (.aload_n 0, 1) := by decide +kernel
theorem dX0_wonBy_38 : decode cX0_wonBy 38 = .ok (.getfield 9, 3) := by decide +kernel
theorem dX0_wonBy_41 : decode cX0_wonBy 41 = .ok (.iconst 0, 1) := by decide +kernel
theorem dX0_wonBy_42 : decode cX0_wonBy 42 = .ok (.iaload, 1) := by decide +kernel
theorem dX0_wonBy_43 : decode cX0_wonBy 43 = .ok (.iload_n 2, 1) := by decide +kernel
theorem dX0_wonBy_44 : decode cX0_wonBy 44 = .ok (.iand, 1) := by decide +kernel
theorem dX0_wonBy_45 : decode cX0_wonBy 45 = .ok (.iload 4, 2) := by decide +kernel
theorem dX0_wonBy_47 : decode cX0_wonBy 47 = .ok (.invokevirtual 62, 3) := by decide +kernel
theorem dX0_wonBy_50 : decode cX0_wonBy 50 = .ok (.iconst (-1), 1) := by decide +kernel
theorem dX0_wonBy_51 : decode cX0_wonBy 51 = .ok (.ixor, 1) := by decide +kernel
theorem dX0_wonBy_52 : decode cX0_wonBy 52 = .ok (.iand, 1) := by decide +kernel
theorem dX0_wonBy_53 : decode cX0_wonBy 53 = .ok (.istore 4, 2) := by decide +kernel
theorem dX0_wonBy_55 : decode cX0_wonBy 55 = .ok (.iload_n 3, 1) := by decide +kernel
theorem dX0_wonBy_56 : decode cX0_wonBy 56 = .ok (.aload_n 0, 1) := by decide +kernel
theorem dX0_wonBy_57 : decode cX0_wonBy 57 = .ok (.iload 4, 2) := by decide +kernel
theorem dX0_wonBy_59 : decode cX0_wonBy 59 = .ok (.bipush 10, 2) := by decide +kernel
theorem dX0_wonBy_61 : decode cX0_wonBy 61 = .ok (.invokestatic 66, 3) := by decide +kernel
theorem dX0_wonBy_64 : decode cX0_wonBy 64 = .ok (.ior, 1) := by decide +kernel
theorem dX0_wonBy_65 : decode cX0_wonBy 65 = .ok (.istore_n 3, 1) := by decide +kernel
theorem dX0_wonBy_66 : decode cX0_wonBy 66 = .ok (.iload_n 1, 1) := by decide +kernel
theorem dX0_wonBy_67 : decode cX0_wonBy 67 = .ok (.ifCond .ne 7, 3) := by decide +kernel
theorem dX0_wonBy_70 : decode cX0_wonBy 70 = .ok (.iload_n 3, 1) := by decide +kernel
theorem dX0_wonBy_71 : decode cX0_wonBy 71 = .ok (.goto 11, 3) := by decide +kernel
theorem dX0_wonBy_74 : decode cX0_wonBy 74 = .ok (.aload_n 0, 1) := by decide +kernel
theorem dX0_wonBy_75 : decode cX0_wonBy 75 = .ok (.getfield 28, 3) := by decide +kernel
theorem dX0_wonBy_78 : decode cX0_wonBy 78 = .ok (.iload_n 3, 1) := by decide +kernel
theorem dX0_wonBy_79 : decode cX0_wonBy 79 = .ok (.iconst (-1), 1) := by decide +kernel
theorem dX0_wonBy_80 : decode cX0_wonBy 80 = .ok (.ixor, 1) := by decide +kernel
theorem dX0_wonBy_81 : decode cX0_wonBy 81 = .ok (.iand, 1) := by decide +kernel
theorem dX0_wonBy_82 : decode cX0_wonBy 82 = .ok (.ireturn, 1) := by decide +kernel
set_option maxRecDepth 20000 in
theorem ggX0_wonEndless_X0_greatestCall : GoodIn wsX0_wonEndless wsX0_greatestCall := goodIn_r _ [6, 1, 20, 21, 22, 23, 24] (by decide +kernel) (by decide +kernel)
set_option maxRecDepth 20000 in
theorem gX0_wonEndless_X0_greatestCall : GoodIn wsX0_wonEndless (wsV RX0 70 RX0 yX0_greatestCall wsX0_greatestCall) := goodIn_app (goodIn_of _ (by decide +kernel)) ggX0_wonEndless_X0_greatestCall
set_option maxRecDepth 20000 in
theorem ggX0_wonEndless_X0_attract : GoodIn wsX0_wonEndless wsX0_attract := goodIn_r _ [10, 11, 12, 13, 5, 14, 15, 16, 17, 20, 21, 22, 23, 24] (by decide +kernel) (by decide +kernel)
set_option maxRecDepth 20000 in
theorem gX0_wonEndless_X0_attract : GoodIn wsX0_wonEndless (wsV RX0 62 RX0 yX0_attract wsX0_attract) := goodIn_app (goodIn_of _ (by decide +kernel)) ggX0_wonEndless_X0_attract
set_option maxRecDepth 20000 in
theorem ggX0_wonEndless_X0_wonEndless : GoodIn wsX0_wonEndless wsX0_wonEndless := goodIn_r _ [0, 1, 2, 3, 4, 5, 6, 7, 8, 9, 10, 11, 12, 13, 14, 15, 16, 17, 18, 19, 20, 21, 22, 23, 24] (by decide +kernel) (by decide +kernel)
set_option maxRecDepth 20000 in
theorem gX0_wonEndless_X0_wonEndless : GoodIn wsX0_wonEndless (va_wsS RX0 66 yX0_wonEndless wsX0_wonEndless) := goodIn_app (goodIn_of _ (by decide +kernel)) ggX0_wonEndless_X0_wonEndless
theorem dX0_wonEndless_0 : decode cX0_wonEndless 0 = .ok (.aload_n 0, 1) := by decide +kernel
theorem dX0_wonEndless_1 : decode cX0_wonEndless 1 = .ok (.iload_n 1, 1) := by decide +kernel
theorem dX0_wonEndless_2 : decode cX0_wonEndless 2 = .ok (.iload_n 2, 1) := by decide +kernel
theorem dX0_wonEndless_3 : decode cX0_wonEndless 3 = .ok (.invokevirtual 70, 3) := by decide +kernel
theorem dX0_wonEndless_6 : decode cX0_wonEndless 6 = .ok (.istore_n 3, 1) := by decide +kernel
theorem dX0_wonEndless_7 : decode cX0_wonEndless 7 = .ok (.iload_n 3, 1) := by decide +kernel
theorem dX0_wonEndless_8 : decode cX0_wonEndless 8 = .ok (.iconst (-1), 1) := by decide +kernel
theorem dX0_wonEndless_9 : decode cX0_wonEndless 9 = .ok (.if_icmp .ne 5, 3) := by decide +kernel
theorem dX0_wonEndless_12 : decode cX0_wonEndless 12 = .ok (.iconst 0, 1) := by decide +kernel
theorem dX0_wonEndless_13 : decode cX0_wonEndless 13 = .ok (.ireturn, 1) := by decide +kernel
theorem dX0_wonEndless_14 : decode cX0_wonEndless 14 = .ok (.iload_n 3, 1) := by decide +kernel
theorem dX0_wonEndless_15 : decode cX0_wonEndless 15 = .ok (.iconst 1, 1) := by decide +kernel
theorem dX0_wonEndless_16 : decode cX0_wonEndless 16 = .ok (.iand, 1) := by decide +kernel
theorem dX0_wonEndless_17 : decode cX0_wonEndless 17 = .ok (.istore 4, 2) := by decide +kernel
theorem dX0_wonEndless_19 : decode cX0_wonEndless 19 = .ok (.iload_n 1, 1) := by decide +kernel
theorem dX0_wonEndless_20 : decode cX0_wonEndless 20 = .ok (.istore 5, 2) := by decide +kernel
theorem dX0_wonEndless_22 : decode cX0_wonEndless 22 = .ok (.iconst 0, 1) := by decide +kernel
theorem dX0_wonEndless_23 : decode cX0_wonEndless 23 = .ok (.istore 6, 2) := by decide +kernel
theorem dX0_wonEndless_25 : decode cX0_wonEndless 25 = .ok (.iload 6, 2) := by decide +kernel
theorem dX0_wonEndless_27 : decode cX0_wonEndless 27 = .ok (.bipush 20, 2) := by decide +kernel
theorem dX0_wonEndless_29 : decode cX0_wonEndless 29 = .ok (.if_icmp .ge 90, 3) := by decide +kernel
theorem dX0_wonEndless_32 : decode cX0_wonEndless 32 = .ok (.iload 5, 2) := by decide +kernel
theorem dX0_wonEndless_34 : decode cX0_wonEndless 34 = .ok (.ifCond .eq 85, 3) := by decide +kernel
theorem dX0_wonEndless_37 : decode cX0_wonEndless 37 = .ok (.iload 5, 2) := by decide +kernel
theorem dX0_wonEndless_39 : decode cX0_wonEndless 39 = .ok (.aload_n 0, 1) := by decide +kernel
theorem dX0_wonEndless_40 : decode cX0_wonEndless 40 = .ok (.iload 4, 2) := by decide +kernel
theorem dX0_wonEndless_42 : decode cX0_wonEndless 42 = .ok (.aload_n 0, 1) := by decide +kernel
theorem dX0_wonEndless_43 : decode cX0_wonEndless 43 = .ok (.getfield 15, 3) := by decide +kernel
theorem dX0_wonEndless_46 : decode cX0_wonEndless 46 = .ok (.iload_n 3, 1) := by decide +kernel
theorem dX0_wonEndless_47 : decode cX0_wonEndless 47 = .ok (.iaload, 1) := by decide +kernel
theorem dX0_wonEndless_48 : decode cX0_wonEndless 48 = .ok (.iload 5, 2) := by decide +kernel
theorem dX0_wonEndless_50 : decode cX0_wonEndless 50 = .ok (.invokevirtual 62, 3) := by decide +kernel
theorem dX0_wonEndless_53 : decode cX0_wonEndless 53 = .ok (.iconst (-1), 1) := by decide +kernel
theorem dX0_wonEndless_54 : decode cX0_wonEndless 54 = .ok (.ixor, 1) := by decide +kernel
theorem dX0_wonEndless_55 : decode cX0_wonEndless 55 = .ok (.iand, 1) := by decide +kernel
theorem dX0_wonEndless_56 : decode cX0_wonEndless 56 = .ok (.istore 7, 2) := by decide +kernel
theorem dX0_wonEndless_58 : decode cX0_wonEndless 58 = .ok (.aload_n 0, 1) := by decide +kernel
theorem dX0_wonEndless_59 : decode cX0_wonEndless 59 = .ok (.iload 7, 2) := by decide +kernel
theorem dX0_wonEndless_61 : decode cX0_wonEndless 61 = .ok (.iload_n 3, 1) := by decide +kernel
theorem dX0_wonEndless_62 : decode cX0_wonEndless 62 = .ok (.invokestatic 66, 3) := by decide +kernel
theorem dX0_wonEndless_65 : decode cX0_wonEndless 65 = .ok (.istore 8, 2) := by decide +kernel
theorem dX0_wonEndless_67 : decode cX0_wonEndless 67 = .ok (.iload 4, 2) := by decide +kernel
theorem dX0_wonEndless_69 : decode cX0_wonEndless 69 = .ok (.ifCond .ne 13, 3) := by decide +kernel
theorem dX0_wonEndless_72 : decode cX0_wonEndless 72 = .ok (.iload 7, 2) := by decide +kernel
theorem dX0_wonEndless_74 : decode cX0_wonEndless 74 = .ok (.iload 8, 2) := by decide +kernel
theorem dX0_wonEndless_76 : decode cX0_wonEndless 76 = .ok (.iconst (-1), 1) := by decide +kernel
theorem dX0_wonEndless_77 : decode cX0_wonEndless 77 = .ok (.ixor, 1) := by decide +kernel
theorem dX0_wonEndless_78 : decode cX0_wonEndless 78 = .ok (.iand, 1) := by decide +kernel
theorem dX0_wonEndless_79 : decode cX0_wonEndless 79 = .ok (.goto 5, 3) := by decide +kernel
theorem dX0_wonEndless_82 : decode cX0_wonEndless 82 = .ok (.iload 8, 2) := by decide +kernel
theorem dX0_wonEndless_84 : decode cX0_wonEndless 84 = .ok (.istore 9, 2) := by decide +kernel
theorem dX0_wonEndless_86 : decode cX0_wonEndless 86 = .ok (.iload 9, 2) := by decide +kernel
theorem dX0_wonEndless_88 : decode cX0_wonEndless 88 = .ok (.ifCond .ne 6, 3) := by decide +kernel
theorem dX0_wonEndless_91 : decode cX0_wonEndless 91 = .ok (.goto 28, 3) := by decide +kernel
theorem dX0_wonEndless_94 : decode cX0_wonEndless 94 = .ok (.iload 5, 2) := by decide +kernel
theorem dX0_wonEndless_96 : decode cX0_wonEndless 96 = .ok (.aload_n 0, 1) := by decide +kernel
theorem dX0_wonEndless_97 : decode cX0_wonEndless 97 = .ok (.iconst 1, 1) := by decide +kernel
theorem dX0_wonEndless_98 : decode cX0_wonEndless 98 = .ok (.iload 4, 2) := by decide +kernel
theorem dX0_wonEndless_100 : decode cX0_wonEndless 100 = .ok (.isub, 1) := by decide +kernel
theorem dX0_wonEndless_101 : decode cX0_wonEndless 101 = .ok (.iload 9, 2) := by decide +kernel
theorem dX0_wonEndless_103 : decode cX0_wonEndless 103 = .ok (.iload 5, 2) := by decide +kernel
theorem dX0_wonEndless_105 : decode cX0_wonEndless 105 = .ok (.invokevirtual 62, 3) := by decide +kernel
theorem dX0_wonEndless_108 : decode cX0_wonEndless 108 = .ok (.iconst (-1), 1) := by decide +kernel
theorem dX0_wonEndless_109 : decode cX0_wonEndless 109 = .ok (.ixor, 1) := by decide +kernel
theorem dX0_wonEndless_110 : decode cX0_wonEndless 110 = .ok (.iand, 1) := by decide +kernel
theorem dX0_wonEndless_111 : decode cX0_wonEndless 111 = .ok (.istore 5, 2) := by decide +kernel
theorem dX0_wonEndless_113 : decode cX0_wonEndless 113 = .ok (.iinc 6 1, 3) := by decide +kernel
theorem dX0_wonEndless_116 : decode cX0_wonEndless 116 = .ok (.goto (-91), 3) := by decide +kernel
theorem dX0_wonEndless_119 : decode cX0_wonEndless 119 = .ok (.iload 4, 2) := by decide +kernel
theorem dX0_wonEndless_121 : decode cX0_wonEndless 121 = .ok (.ifCond .ne 8, 3) := by decide +kernel
theorem dX0_wonEndless_124 : decode cX0_wonEndless 124 = .ok (.iload 5, 2) := by decide +kernel
theorem dX0_wonEndless_126 : decode cX0_wonEndless 126 = .ok (.goto 9, 3) := by decide +kernel
theorem dX0_wonEndless_129 : decode cX0_wonEndless 129 = .ok (.iload_n 1, 1) := by decide +kernel
theorem dX0_wonEndless_130 : decode cX0_wonEndless 130 = .ok (.iload 5, 2) := by decide +kernel
theorem dX0_wonEndless_132 : decode cX0_wonEndless 132 = .ok (.iconst (-1), 1) := by decide +kernel
theorem dX0_wonEndless_133 : decode cX0_wonEndless 133 = .ok (.ixor, 1) := by decide +kernel
theorem dX0_wonEndless_134 : decode cX0_wonEndless 134 = .ok (.iand, 1) := by decide +kernel
theorem dX0_wonEndless_135 : decode cX0_wonEndless 135 = .ok (.ireturn, 1) := by decide +kernel
theorem dX0_greatestCall_0 : decode cX0_greatestCall 0 = .ok (.iload_n 2, 1) := by decide +kernel
theorem dX0_greatestCall_1 : decode cX0_greatestCall 1 = .ok (.iconst 1, 1) := by decide +kernel
theorem dX0_greatestCall_2 : decode cX0_greatestCall 2 = .ok (.isub, 1) := by decide +kernel
theorem dX0_greatestCall_3 : decode cX0_greatestCall 3 = .ok (.istore_n 3, 1) := by decide +kernel
theorem dX0_greatestCall_4 : decode cX0_greatestCall 4 = .ok (.iload_n 3, 1) := by decide +kernel
theorem dX0_greatestCall_5 : decode cX0_greatestCall 5 = .ok (.ifCond .lt 22, 3) := by decide +kernel
theorem dX0_greatestCall_8 : decode cX0_greatestCall 8 = .ok (.aload_n 0, 1) := by decide +kernel
theorem dX0_greatestCall_9 : decode cX0_greatestCall 9 = .ok (.getfield 15, 3) := by decide +kernel
theorem dX0_greatestCall_12 : decode cX0_greatestCall 12 = .ok (.iload_n 3, 1) := by decide +kernel
theorem dX0_greatestCall_13 : decode cX0_greatestCall 13 = .ok (.iaload, 1) := by decide +kernel
theorem dX0_greatestCall_14 : decode cX0_greatestCall 14 = .ok (.iload_n 1, 1) := by decide +kernel
theorem dX0_greatestCall_15 : decode cX0_greatestCall 15 = .ok (.iand, 1) := by decide +kernel
theorem dX0_greatestCall_16 : decode cX0_greatestCall 16 = .ok (.ifCond .eq 5, 3) := by decide +kernel
theorem dX0_greatestCall_19 : decode cX0_greatestCall 19 = .ok (.iload_n 3, 1) := by decide +kernel
theorem dX0_greatestCall_20 : decode cX0_greatestCall 20 = .ok (.ireturn, 1) := by decide +kernel
theorem dX0_greatestCall_21 : decode cX0_greatestCall 21 = .ok (.iinc 3 (-1), 3) := by decide +kernel
theorem dX0_greatestCall_24 : decode cX0_greatestCall 24 = .ok (.goto (-20), 3) := by decide +kernel
theorem dX0_greatestCall_27 : decode cX0_greatestCall 27 = .ok (.iconst (-1), 1) := by decide +kernel
theorem dX0_greatestCall_28 : decode cX0_greatestCall 28 = .ok (.ireturn, 1) := by decide +kernel
theorem dX1_init_0 : decode cX1_init 0 = .ok (.aload_n 0, 1) := by decide +kernel
theorem dX1_init_1 : decode cX1_init 1 = .ok (.invokespecial 3, 3) := by decide +kernel
theorem dX1_init_4 : decode cX1_init 4 = .ok (.aload_n 0, 1) := by decide +kernel
theorem dX1_init_5 : decode cX1_init 5 = .ok (.bipush 20, 2) := by decide +kernel
theorem dX1_init_7 : decode cX1_init 7 = .ok (.newarray .int, 2) := by decide +kernel
theorem dX1_init_9 : decode cX1_init 9 = .ok (.putfield 9, 3) := by decide +kernel
theorem dX1_init_12 : decode cX1_init 12 = .ok (.aload_n 0, 1) := by decide +kernel
theorem dX1_init_13 : decode cX1_init 13 = .ok (.bipush 60, 2) := by decide +kernel
theorem dX1_init_15 : decode cX1_init 15 = .ok (.newarray .int, 2) := by decide +kernel
theorem dX1_init_17 : decode cX1_init 17 = .ok (.putfield 15, 3) := by decide +kernel
theorem dX1_init_20 : decode cX1_init 20 = .ok (.aload_n 0, 1) := by decide +kernel
theorem dX1_init_21 : decode cX1_init 21 = .ok (.bipush 60, 2) := by decide +kernel
theorem dX1_init_23 : decode cX1_init 23 = .ok (.newarray .int, 2) := by decide +kernel
theorem dX1_init_25 : decode cX1_init 25 = .ok (.putfield 18, 3) := by decide +kernel
theorem dX1_init_28 : decode cX1_init 28 = .ok (.aload_n 0, 1) := by decide +kernel
theorem dX1_init_29 : decode cX1_init 29 = .ok (.bipush 10, 2) := by decide +kernel
theorem dX1_init_31 : decode cX1_init 31 = .ok (.newarray .int, 2) := by decide +kernel
theorem dX1_init_33 : decode cX1_init 33 = .ok (.putfield 21, 3) := by decide +kernel
theorem dX1_init_36 : decode cX1_init 36 = .ok (.return_, 1) := by decide +kernel
theorem dX1_clear_0 : decode cX1_clear 0 = .ok (.aload_n 0, 1) := by decide +kernel
theorem dX1_clear_1 : decode cX1_clear 1 = .ok (.iconst 0, 1) := by decide +kernel
theorem dX1_clear_2 : decode cX1_clear 2 = .ok (.putfield 24, 3) := by decide +kernel
theorem dX1_clear_5 : decode cX1_clear 5 = .ok (.aload_n 0, 1) := by decide +kernel
theorem dX1_clear_6 : decode cX1_clear 6 = .ok (.iconst 0, 1) := by decide +kernel
theorem dX1_clear_7 : decode cX1_clear 7 = .ok (.putfield 28, 3) := by decide +kernel
theorem dX1_clear_10 : decode cX1_clear 10 = .ok (.aload_n 0, 1) := by decide +kernel
theorem dX1_clear_11 : decode cX1_clear 11 = .ok (.iconst 0, 1) := by decide +kernel
theorem dX1_clear_12 : decode cX1_clear 12 = .ok (.putfield 31, 3) := by decide +kernel
theorem dX1_clear_15 : decode cX1_clear 15 = .ok (.aload_n 0, 1) := by decide +kernel
theorem dX1_clear_16 : decode cX1_clear 16 = .ok (.iconst 0, 1) := by decide +kernel
theorem dX1_clear_17 : decode cX1_clear 17 = .ok (.putfield 34, 3) := by decide +kernel
theorem dX1_clear_20 : decode cX1_clear 20 = .ok (.aload_n 0, 1) := by decide +kernel
theorem dX1_clear_21 : decode cX1_clear 21 = .ok (.iconst 0, 1) := by decide +kernel
theorem dX1_clear_22 : decode cX1_clear 22 = .ok (.putfield 37, 3) := by decide +kernel
theorem dX1_clear_25 : decode cX1_clear 25 = .ok (.return_, 1) := by decide +kernel
theorem dX1_copy_0 : decode cX1_copy 0 = .ok (.aload_n 0, 1) := by decide +kernel
theorem dX1_copy_1 : decode cX1_copy 1 = .ok (.aload_n 1, 1) := by decide +kernel
theorem dX1_copy_2 : decode cX1_copy 2 = .ok (.getfield 24, 3) := by decide +kernel
theorem dX1_copy_5 : decode cX1_copy 5 = .ok (.putfield 24, 3) := by decide +kernel
theorem dX1_copy_8 : decode cX1_copy 8 = .ok (.aload_n 0, 1) := by decide +kernel
theorem dX1_copy_9 : decode cX1_copy 9 = .ok (.aload_n 1, 1) := by decide +kernel
theorem dX1_copy_10 : decode cX1_copy 10 = .ok (.getfield 28, 3) := by decide +kernel
theorem dX1_copy_13 : decode cX1_copy 13 = .ok (.putfield 28, 3) := by decide +kernel
theorem dX1_copy_16 : decode cX1_copy 16 = .ok (.aload_n 1, 1) := by decide +kernel
theorem dX1_copy_17 : decode cX1_copy 17 = .ok (.getfield 9, 3) := by decide +kernel
theorem dX1_copy_20 : decode cX1_copy 20 = .ok (.iconst 0, 1) := by decide +kernel
theorem dX1_copy_21 : decode cX1_copy 21 = .ok (.aload_n 0, 1) := by decide +kernel
theorem dX1_copy_22 : decode cX1_copy 22 = .ok (.getfield 9, 3) := by decide +kernel
theorem dX1_copy_25 : decode cX1_copy 25 = .ok (.iconst 0, 1) := by decide +kernel
theorem dX1_copy_26 : decode cX1_copy 26 = .ok (.bipush 20, 2) := by decide +kernel
theorem dX1_copy_28 : decode cX1_copy 28 = .ok (.invokestatic 40, 3) := by decide +kernel
theorem dX1_copy_31 : decode cX1_copy 31 = .ok (.aload_n 0, 1) := by decide +kernel
theorem dX1_copy_32 : decode cX1_copy 32 = .ok (.aload_n 1, 1) := by decide +kernel
theorem dX1_copy_33 : decode cX1_copy 33 = .ok (.getfield 31, 3) := by decide +kernel
theorem dX1_copy_36 : decode cX1_copy 36 = .ok (.putfield 31, 3) := by decide +kernel
theorem dX1_copy_39 : decode cX1_copy 39 = .ok (.aload_n 1, 1) := by decide +kernel
theorem dX1_copy_40 : decode cX1_copy 40 = .ok (.getfield 15, 3) := by decide +kernel
theorem dX1_copy_43 : decode cX1_copy 43 = .ok (.iconst 0, 1) := by decide +kernel
theorem dX1_copy_44 : decode cX1_copy 44 = .ok (.aload_n 0, 1) := by decide +kernel
theorem dX1_copy_45 : decode cX1_copy 45 = .ok (.getfield 15, 3) := by decide +kernel
theorem dX1_copy_48 : decode cX1_copy 48 = .ok (.iconst 0, 1) := by decide +kernel
theorem dX1_copy_49 : decode cX1_copy 49 = .ok (.bipush 60, 2) := by decide +kernel
theorem dX1_copy_51 : decode cX1_copy 51 = .ok (.invokestatic 40, 3) := by decide +kernel
theorem dX1_copy_54 : decode cX1_copy 54 = .ok (.aload_n 1, 1) := by decide +kernel
theorem dX1_copy_55 : decode cX1_copy 55 = .ok (.getfield 18, 3) := by decide +kernel
theorem dX1_copy_58 : decode cX1_copy 58 = .ok (.iconst 0, 1) := by decide +kernel
theorem dX1_copy_59 : decode cX1_copy 59 = .ok (.aload_n 0, 1) := by decide +kernel
theorem dX1_copy_60 : decode cX1_copy 60 = .ok (.getfield 18, 3) := by decide +kernel
theorem dX1_copy_63 : decode cX1_copy 63 = .ok (.iconst 0, 1) := by decide +kernel
theorem dX1_copy_64 : decode cX1_copy 64 = .ok (.bipush 60, 2) := by decide +kernel
theorem dX1_copy_66 : decode cX1_copy 66 = .ok (.invokestatic 40, 3) := by decide +kernel
theorem dX1_copy_69 : decode cX1_copy 69 = .ok (.aload_n 0, 1) := by decide +kernel
theorem dX1_copy_70 : decode cX1_copy 70 = .ok (.aload_n 1, 1) := by decide +kernel
theorem dX1_copy_71 : decode cX1_copy 71 = .ok (.getfield 34, 3) := by decide +kernel
theorem dX1_copy_74 : decode cX1_copy 74 = .ok (.putfield 34, 3) := by decide +kernel
theorem dX1_copy_77 : decode cX1_copy 77 = .ok (.aload_n 0, 1) := by decide +kernel
theorem dX1_copy_78 : decode cX1_copy 78 = .ok (.aload_n 1, 1) := by decide +kernel
theorem dX1_copy_79 : decode cX1_copy 79 = .ok (.getfield 37, 3) := by decide +kernel
theorem dX1_copy_82 : decode cX1_copy 82 = .ok (.putfield 37, 3) := by decide +kernel
theorem dX1_copy_85 : decode cX1_copy 85 = .ok (.aload_n 1, 1) := by decide +kernel
theorem dX1_copy_86 : decode cX1_copy 86 = .ok (.getfield 21, 3) := by decide +kernel
theorem dX1_copy_89 : decode cX1_copy 89 = .ok (.iconst 0, 1) := by decide +kernel
theorem dX1_copy_90 : decode cX1_copy 90 = .ok (.aload_n 0, 1) := by decide +kernel
theorem dX1_copy_91 : decode cX1_copy 91 = .ok (.getfield 21, 3) := by decide +kernel
theorem dX1_copy_94 : decode cX1_copy 94 = .ok (.iconst 0, 1) := by decide +kernel
theorem dX1_copy_95 : decode cX1_copy 95 = .ok (.bipush 10, 2) := by decide +kernel
theorem dX1_copy_97 : decode cX1_copy 97 = .ok (.invokestatic 40, 3) := by decide +kernel
theorem dX1_copy_100 : decode cX1_copy 100 = .ok (.return_, 1) := by decide +kernel
theorem dX1_hasPlace_0 : decode cX1_hasPlace 0 = .ok (.iload_n 1, 1) := by decide +kernel
theorem dX1_hasPlace_1 : decode cX1_hasPlace 1 = .ok (.ifCond .lt 15, 3) := by decide +kernel
theorem dX1_hasPlace_4 : decode cX1_hasPlace 4 = .ok (.iload_n 1, 1) := by decide +kernel
theorem dX1_hasPlace_5 : decode cX1_hasPlace 5 = .ok (.aload_n 0, 1) := by decide +kernel
theorem dX1_hasPlace_6 : decode cX1_hasPlace 6 = .ok (.getfield 24, 3) := by decide +kernel
theorem dX1_hasPlace_9 : decode cX1_hasPlace 9 = .ok (.if_icmp .ge 7, 3) := by decide +kernel
theorem dX1_hasPlace_12 : decode cX1_hasPlace 12 = .ok (.iconst 1, 1) := by decide +kernel
theorem dX1_hasPlace_13 : decode cX1_hasPlace 13 = .ok (.goto 4, 3) := by decide +kernel
theorem dX1_hasPlace_16 : decode cX1_hasPlace 16 = .ok (.iconst 0, 1) := by decide +kernel
theorem dX1_hasPlace_17 : decode cX1_hasPlace 17 = .ok (.ireturn, 1) := by decide +kernel
theorem dX1_ownerOf_0 : decode cX1_ownerOf 0 = .ok (.aload_n 0, 1) := by decide +kernel
theorem dX1_ownerOf_1 : decode cX1_ownerOf 1 = .ok (.getfield 28, 3) := by decide +kernel
theorem dX1_ownerOf_4 : decode cX1_ownerOf 4 = .ok (.iload_n 1, 1) := by decide +kernel
theorem dX1_ownerOf_5 : decode cX1_ownerOf 5 = .ok (.iushr, 1) := by decide +kernel
theorem dX1_ownerOf_6 : decode cX1_ownerOf 6 = .ok (.iconst 1, 1) := by decide +kernel
theorem dX1_ownerOf_7 : decode cX1_ownerOf 7 = .ok (.iand, 1) := by decide +kernel
theorem dX1_ownerOf_8 : decode cX1_ownerOf 8 = .ok (.ireturn, 1) := by decide +kernel
theorem dX1_greatestCall_0 : decode cX1_greatestCall 0 = .ok (.iconst 0, 1) := by decide +kernel
theorem dX1_greatestCall_1 : decode cX1_greatestCall 1 = .ok (.istore_n 1, 1) := by decide +kernel
theorem dX1_greatestCall_2 : decode cX1_greatestCall 2 = .ok (.iconst 0, 1) := by decide +kernel
theorem dX1_greatestCall_3 : decode cX1_greatestCall 3 = .ok (.istore_n 2, 1) := by decide +kernel
theorem dX1_greatestCall_4 : decode cX1_greatestCall 4 = .ok (.iload_n 2, 1) := by decide +kernel
theorem dX1_greatestCall_5 : decode cX1_greatestCall 5 = .ok (.aload_n 0, 1) := by decide +kernel
theorem dX1_greatestCall_6 : decode cX1_greatestCall 6 = .ok (.getfield 24, 3) := by decide +kernel
theorem dX1_greatestCall_9 : decode cX1_greatestCall 9 = .ok (.if_icmp .ge 20, 3) := by decide +kernel
theorem dX1_greatestCall_12 : decode cX1_greatestCall 12 = .ok (.iload_n 1, 1) := by decide +kernel
theorem dX1_greatestCall_13 : decode cX1_greatestCall 13 = .ok (.aload_n 0, 1) := by decide +kernel
theorem dX1_greatestCall_14 : decode cX1_greatestCall 14 = .ok (.getfield 9, 3) := by decide +kernel
theorem dX1_greatestCall_17 : decode cX1_greatestCall 17 = .ok (.iload_n 2, 1) := by decide +kernel
theorem dX1_greatestCall_18 : decode cX1_greatestCall 18 = .ok (.iaload, 1) := by decide +kernel
theorem dX1_greatestCall_19 : decode cX1_greatestCall 19 = .ok (.invokestatic 46, 3) := by decide +kernel
theorem dX1_greatestCall_22 : decode cX1_greatestCall 22 = .ok (.istore_n 1, 1) := by decide +kernel
theorem dX1_greatestCall_23 : decode cX1_greatestCall 23 = .ok (.iinc 2 1, 3) := by decide +kernel
theorem dX1_greatestCall_26 : decode cX1_greatestCall 26 = .ok (.goto (-22), 3) := by decide +kernel
theorem dX1_greatestCall_29 : decode cX1_greatestCall 29 = .ok (.iload_n 1, 1) := by decide +kernel
theorem dX1_greatestCall_30 : decode cX1_greatestCall 30 = .ok (.ireturn, 1) := by decide +kernel
theorem dX1_movesFrom_0 : decode cX1_movesFrom 0 = .ok (.iconst 0, 1) := by decide +kernel
theorem dX1_movesFrom_1 : decode cX1_movesFrom 1 = .ok (.istore_n 2, 1) := by decide +kernel
theorem dX1_movesFrom_2 : decode cX1_movesFrom 2 = .ok (.iconst 0, 1) := by decide +kernel
theorem dX1_movesFrom_3 : decode cX1_movesFrom 3 = .ok (.istore_n 3, 1) := by decide +kernel
theorem dX1_movesFrom_4 : decode cX1_movesFrom 4 = .ok (.iload_n 3, 1) := by decide +kernel
theorem dX1_movesFrom_5 : decode cX1_movesFrom 5 = .ok (.aload_n 0, 1) := by decide +kernel
theorem dX1_movesFrom_6 : decode cX1_movesFrom 6 = .ok (.getfield 31, 3) := by decide +kernel
theorem dX1_movesFrom_9 : decode cX1_movesFrom 9 = .ok (.if_icmp .ge 22, 3) := by decide +kernel
theorem dX1_movesFrom_12 : decode cX1_movesFrom 12 = .ok (.aload_n 0, 1) := by decide +kernel
theorem dX1_movesFrom_13 : decode cX1_movesFrom 13 = .ok (.getfield 15, 3) := by decide +kernel
theorem dX1_movesFrom_16 : decode cX1_movesFrom 16 = .ok (.iload_n 3, 1) := by decide +kernel
theorem dX1_movesFrom_17 : decode cX1_movesFrom 17 = .ok (.iaload, 1) := by decide +kernel
theorem dX1_movesFrom_18 : decode cX1_movesFrom 18 = .ok (.iload_n 1, 1) := by decide +kernel
theorem dX1_movesFrom_19 : decode cX1_movesFrom 19 = .ok (.if_icmp .ne 6, 3) := by decide +kernel
theorem dX1_movesFrom_22 : decode cX1_movesFrom 22 = .ok (.iinc 2 1, 3) := by decide +kernel
theorem dX1_movesFrom_25 : decode cX1_movesFrom 25 = .ok (.iinc 3 1, 3) := by decide +kernel
theorem dX1_movesFrom_28 : decode cX1_movesFrom 28 = .ok (.goto (-24), 3) := by decide +kernel
theorem dX1_movesFrom_31 : decode cX1_movesFrom 31 = .ok (.iload_n 2, 1) := by decide +kernel
theorem dX1_movesFrom_32 : decode cX1_movesFrom 32 = .ok (.ireturn, 1) := by decide +kernel
theorem dX1_movesTo_0 : decode cX1_movesTo 0 = .ok (.iconst 0, 1) := by decide +kernel
theorem dX1_movesTo_1 : decode cX1_movesTo 1 = .ok (.istore_n 2, 1) := by decide +kernel
theorem dX1_movesTo_2 : decode cX1_movesTo 2 = .ok (.iconst 0, 1) := by decide +kernel
theorem dX1_movesTo_3 : decode cX1_movesTo 3 = .ok (.istore_n 3, 1) := by decide +kernel
theorem dX1_movesTo_4 : decode cX1_movesTo 4 = .ok (.iload_n 3, 1) := by decide +kernel
theorem dX1_movesTo_5 : decode cX1_movesTo 5 = .ok (.aload_n 0, 1) := by decide +kernel
theorem dX1_movesTo_6 : decode cX1_movesTo 6 = .ok (.getfield 31, 3) := by decide +kernel
theorem dX1_movesTo_9 : decode cX1_movesTo 9 = .ok (.if_icmp .ge 22, 3) := by decide +kernel
theorem dX1_movesTo_12 : decode cX1_movesTo 12 = .ok (.aload_n 0, 1) := by decide +kernel
theorem dX1_movesTo_13 : decode cX1_movesTo 13 = .ok (.getfield 18, 3) := by decide +kernel
theorem dX1_movesTo_16 : decode cX1_movesTo 16 = .ok (.iload_n 3, 1) := by decide +kernel
theorem dX1_movesTo_17 : decode cX1_movesTo 17 = .ok (.iaload, 1) := by decide +kernel
theorem dX1_movesTo_18 : decode cX1_movesTo 18 = .ok (.iload_n 1, 1) := by decide +kernel
theorem dX1_movesTo_19 : decode cX1_movesTo 19 = .ok (.if_icmp .ne 6, 3) := by decide +kernel
theorem dX1_movesTo_22 : decode cX1_movesTo 22 = .ok (.iinc 2 1, 3) := by decide +kernel
theorem dX1_movesTo_25 : decode cX1_movesTo 25 = .ok (.iinc 3 1, 3) := by decide +kernel
theorem dX1_movesTo_28 : decode cX1_movesTo 28 = .ok (.goto (-24), 3) := by decide +kernel
theorem dX1_movesTo_31 : decode cX1_movesTo 31 = .ok (.iload_n 2, 1) := by decide +kernel
theorem dX1_movesTo_32 : decode cX1_movesTo 32 = .ok (.ireturn, 1) := by decide +kernel
theorem dX1_findMove_0 : decode cX1_findMove 0 = .ok (.iconst 0, 1) := by decide +kernel
theorem dX1_findMove_1 : decode cX1_findMove 1 = .ok (.istore_n 3, 1) := by decide +kernel
theorem dX1_findMove_2 : decode cX1_findMove 2 = .ok (.iload_n 3, 1) := by decide +kernel
theorem dX1_findMove_3 : decode cX1_findMove 3 = .ok (.aload_n 0, 1) := by decide +kernel
theorem dX1_findMove_4 : decode cX1_findMove 4 = .ok (.getfield 31, 3) := by decide +kernel
theorem dX1_findMove_7 : decode cX1_findMove 7 = .ok (.if_icmp .ge 31, 3) := by decide +kernel
theorem dX1_findMove_10 : decode cX1_findMove 10 = .ok (.aload_n 0, 1) := by decide +kernel
theorem dX1_findMove_11 : decode cX1_findMove 11 = .ok (.getfield 15, 3) := by decide +kernel
theorem dX1_findMove_14 : decode cX1_findMove 14 = .ok (.iload_n 3, 1) := by decide +kernel
theorem dX1_findMove_15 : decode cX1_findMove 15 = .ok (.iaload, 1) := by decide +kernel
theorem dX1_findMove_16 : decode cX1_findMove 16 = .ok (.iload_n 1, 1) := by decide +kernel
theorem dX1_findMove_17 : decode cX1_findMove 17 = .ok (.if_icmp .ne 15, 3) := by decide +kernel
theorem dX1_findMove_20 : decode cX1_findMove 20 = .ok (.aload_n 0, 1) := by decide +kernel
theorem dX1_findMove_21 : decode cX1_findMove 21 = .ok (.getfield 18, 3) := by decide +kernel
theorem dX1_findMove_24 : decode cX1_findMove 24 = .ok (.iload_n 3, 1) := by decide +kernel
theorem dX1_findMove_25 : decode cX1_findMove 25 = .ok (.iaload, 1) := by decide +kernel
theorem dX1_findMove_26 : decode cX1_findMove 26 = .ok (.iload_n 2, 1) := by decide +kernel
theorem dX1_findMove_27 : decode cX1_findMove 27 = .ok (.if_icmp .ne 5, 3) := by decide +kernel
theorem dX1_findMove_30 : decode cX1_findMove 30 = .ok (.iload_n 3, 1) := by decide +kernel
theorem dX1_findMove_31 : decode cX1_findMove 31 = .ok (.ireturn, 1) := by decide +kernel
theorem dX1_findMove_32 : decode cX1_findMove 32 = .ok (.iinc 3 1, 3) := by decide +kernel
theorem dX1_findMove_35 : decode cX1_findMove 35 = .ok (.goto (-33), 3) := by decide +kernel
theorem dX1_findMove_38 : decode cX1_findMove 38 = .ok (.iconst (-1), 1) := by decide +kernel
theorem dX1_findMove_39 : decode cX1_findMove 39 = .ok (.ireturn, 1) := by decide +kernel
theorem dX1_firstMove_0 : decode cX1_firstMove 0 = .ok (.iconst 0, 1) := by decide +kernel
theorem dX1_firstMove_1 : decode cX1_firstMove 1 = .ok (.istore_n 2, 1) := by decide +kernel
theorem dX1_firstMove_2 : decode cX1_firstMove 2 = .ok (.iload_n 2, 1) := by decide +kernel
theorem dX1_firstMove_3 : decode cX1_firstMove 3 = .ok (.aload_n 0, 1) := by decide +kernel
theorem dX1_firstMove_4 : decode cX1_firstMove 4 = .ok (.getfield 31, 3) := by decide +kernel
theorem dX1_firstMove_7 : decode cX1_firstMove 7 = .ok (.if_icmp .ge 21, 3) := by decide +kernel
theorem dX1_firstMove_10 : decode cX1_firstMove 10 = .ok (.aload_n 0, 1) := by decide +kernel
theorem dX1_firstMove_11 : decode cX1_firstMove 11 = .ok (.getfield 15, 3) := by decide +kernel
theorem dX1_firstMove_14 : decode cX1_firstMove 14 = .ok (.iload_n 2, 1) := by decide +kernel
theorem dX1_firstMove_15 : decode cX1_firstMove 15 = .ok (.iaload, 1) := by decide +kernel
theorem dX1_firstMove_16 : decode cX1_firstMove 16 = .ok (.iload_n 1, 1) := by decide +kernel
theorem dX1_firstMove_17 : decode cX1_firstMove 17 = .ok (.if_icmp .ne 5, 3) := by decide +kernel
theorem dX1_firstMove_20 : decode cX1_firstMove 20 = .ok (.iload_n 2, 1) := by decide +kernel
theorem dX1_firstMove_21 : decode cX1_firstMove 21 = .ok (.ireturn, 1) := by decide +kernel
theorem dX1_firstMove_22 : decode cX1_firstMove 22 = .ok (.iinc 2 1, 3) := by decide +kernel
theorem dX1_firstMove_25 : decode cX1_firstMove 25 = .ok (.goto (-23), 3) := by decide +kernel
theorem dX1_firstMove_28 : decode cX1_firstMove 28 = .ok (.iconst (-1), 1) := by decide +kernel
theorem dX1_firstMove_29 : decode cX1_firstMove 29 = .ok (.ireturn, 1) := by decide +kernel
theorem dX1_appendPlace_0 : decode cX1_appendPlace 0 = .ok (.aload_n 0, 1) := by decide +kernel
theorem dX1_appendPlace_1 : decode cX1_appendPlace 1 = .ok (.getfield 24, 3) := by decide +kernel
theorem dX1_appendPlace_4 : decode cX1_appendPlace 4 = .ok (.bipush 20, 2) := by decide +kernel
theorem dX1_appendPlace_6 : decode cX1_appendPlace 6 = .ok (.if_icmp .ge 47, 3) := by decide +kernel
theorem dX1_appendPlace_9 : decode cX1_appendPlace 9 = .ok (.aload_n 0, 1) := by decide +kernel
theorem dX1_appendPlace_10 : decode cX1_appendPlace 10 = .ok (.getfield 9, 3) := by decide +kernel
theorem dX1_appendPlace_13 : decode cX1_appendPlace 13 = .ok (.aload_n 0, 1) := by decide +kernel
theorem dX1_appendPlace_14 : decode cX1_appendPlace 14 = .ok (.getfield 24, 3) := by decide +kernel
theorem dX1_appendPlace_17 : decode cX1_appendPlace 17 = .ok (.iload_n 2, 1) := by decide +kernel
theorem dX1_appendPlace_18 : decode cX1_appendPlace 18 = .ok (.iastore, 1) := by decide +kernel
theorem dX1_appendPlace_19 : decode cX1_appendPlace 19 = .ok (.aload_n 0, 1) := by decide +kernel
theorem dX1_appendPlace_20 : decode cX1_appendPlace 20 = .ok (.aload_n 0, 1) := by decide +kernel
theorem dX1_appendPlace_21 : decode cX1_appendPlace 21 = .ok (.getfield 28, 3) := by decide +kernel
theorem dX1_appendPlace_24 : decode cX1_appendPlace 24 = .ok (.iconst 1, 1) := by decide +kernel
theorem dX1_appendPlace_25 : decode cX1_appendPlace 25 = .ok (.aload_n 0, 1) := by decide +kernel
theorem dX1_appendPlace_26 : decode cX1_appendPlace 26 = .ok (.getfield 24, 3) := by decide +kernel
theorem dX1_appendPlace_29 : decode cX1_appendPlace 29 = .ok (.ishl, 1) := by decide +kernel
theorem dX1_appendPlace_30 : decode cX1_appendPlace 30 = .ok (.iconst (-1), 1) := by decide +kernel
theorem dX1_appendPlace_31 : decode cX1_appendPlace 31 = .ok (.ixor, 1) := by decide +kernel
theorem dX1_appendPlace_32 : decode cX1_appendPlace 32 = .ok (.iand, 1) := by decide +kernel
theorem dX1_appendPlace_33 : decode cX1_appendPlace 33 = .ok (.iload_n 1, 1) := by decide +kernel
theorem dX1_appendPlace_34 : decode cX1_appendPlace 34 = .ok (.aload_n 0, 1) := by decide +kernel
theorem dX1_appendPlace_35 : decode cX1_appendPlace 35 = .ok (.getfield 24, 3) := by decide +kernel
theorem dX1_appendPlace_38 : decode cX1_appendPlace 38 = .ok (.ishl, 1) := by decide +kernel
theorem dX1_appendPlace_39 : decode cX1_appendPlace 39 = .ok (.ior, 1) := by decide +kernel
theorem dX1_appendPlace_40 : decode cX1_appendPlace 40 = .ok (.putfield 28, 3) := by decide +kernel
theorem dX1_appendPlace_43 : decode cX1_appendPlace 43 = .ok (.aload_n 0, 1) := by decide +kernel
theorem dX1_appendPlace_44 : decode cX1_appendPlace 44 = .ok (.dup, 1) := by decide +kernel
theorem dX1_appendPlace_45 : decode cX1_appendPlace 45 = .ok (.getfield 24, 3) := by decide +kernel
theorem dX1_appendPlace_48 : decode cX1_appendPlace 48 = .ok (.iconst 1, 1) := by decide +kernel
theorem dX1_appendPlace_49 : decode cX1_appendPlace 49 = .ok (.iadd, 1) := by decide +kernel
theorem dX1_appendPlace_50 : decode cX1_appendPlace 50 = .ok (.putfield 24, 3) := by decide +kernel
theorem dX1_appendPlace_53 : decode cX1_appendPlace 53 = .ok (.return_, 1) := by decide +kernel
theorem dX1_appendMove_0 : decode cX1_appendMove 0 = .ok (.aload_n 0, 1) := by decide +kernel
theorem dX1_appendMove_1 : decode cX1_appendMove 1 = .ok (.getfield 31, 3) := by decide +kernel
theorem dX1_appendMove_4 : decode cX1_appendMove 4 = .ok (.bipush 60, 2) := by decide +kernel
theorem dX1_appendMove_6 : decode cX1_appendMove 6 = .ok (.if_icmp .ge 33, 3) := by decide +kernel
theorem dX1_appendMove_9 : decode cX1_appendMove 9 = .ok (.aload_n 0, 1) := by decide +kernel
theorem dX1_appendMove_10 : decode cX1_appendMove 10 = .ok (.getfield 15, 3) := by decide +kernel
theorem dX1_appendMove_13 : decode cX1_appendMove 13 = .ok (.aload_n 0, 1) := by decide +kernel
theorem dX1_appendMove_14 : decode cX1_appendMove 14 = .ok (.getfield 31, 3) := by decide +kernel
theorem dX1_appendMove_17 : decode cX1_appendMove 17 = .ok (.iload_n 1, 1) := by decide +kernel
theorem dX1_appendMove_18 : decode cX1_appendMove 18 = .ok (.iastore, 1) := by decide +kernel
theorem dX1_appendMove_19 : decode cX1_appendMove 19 = .ok (.aload_n 0, 1) := by decide +kernel
theorem dX1_appendMove_20 : decode cX1_appendMove 20 = .ok (.getfield 18, 3) := by decide +kernel
theorem dX1_appendMove_23 : decode cX1_appendMove 23 = .ok (.aload_n 0, 1) := by decide +kernel
theorem dX1_appendMove_24 : decode cX1_appendMove 24 = .ok (.getfield 31, 3) := by decide +kernel
theorem dX1_appendMove_27 : decode cX1_appendMove 27 = .ok (.iload_n 2, 1) := by decide +kernel
theorem dX1_appendMove_28 : decode cX1_appendMove 28 = .ok (.iastore, 1) := by decide +kernel
theorem dX1_appendMove_29 : decode cX1_appendMove 29 = .ok (.aload_n 0, 1) := by decide +kernel
theorem dX1_appendMove_30 : decode cX1_appendMove 30 = .ok (.dup, 1) := by decide +kernel
theorem dX1_appendMove_31 : decode cX1_appendMove 31 = .ok (.getfield 31, 3) := by decide +kernel
theorem dX1_appendMove_34 : decode cX1_appendMove 34 = .ok (.iconst 1, 1) := by decide +kernel
theorem dX1_appendMove_35 : decode cX1_appendMove 35 = .ok (.iadd, 1) := by decide +kernel
theorem dX1_appendMove_36 : decode cX1_appendMove 36 = .ok (.putfield 31, 3) := by decide +kernel
theorem dX1_appendMove_39 : decode cX1_appendMove 39 = .ok (.return_, 1) := by decide +kernel
theorem dX1_dropMove_0 : decode cX1_dropMove 0 = .ok (.iload_n 1, 1) := by decide +kernel
theorem dX1_dropMove_1 : decode cX1_dropMove 1 = .ok (.istore_n 2, 1) := by decide +kernel
theorem dX1_dropMove_2 : decode cX1_dropMove 2 = .ok (.iload_n 2, 1) := by decide +kernel
theorem dX1_dropMove_3 : decode cX1_dropMove 3 = .ok (.aload_n 0, 1) := by decide +kernel
theorem dX1_dropMove_4 : decode cX1_dropMove 4 = .ok (.getfield 31, 3) := by decide +kernel
theorem dX1_dropMove_7 : decode cX1_dropMove 7 = .ok (.iconst 1, 1) := by decide +kernel
theorem dX1_dropMove_8 : decode cX1_dropMove 8 = .ok (.isub, 1) := by decide +kernel
theorem dX1_dropMove_9 : decode cX1_dropMove 9 = .ok (.if_icmp .ge 37, 3) := by decide +kernel
theorem dX1_dropMove_12 : decode cX1_dropMove 12 = .ok (.aload_n 0, 1) := by decide +kernel
theorem dX1_dropMove_13 : decode cX1_dropMove 13 = .ok (.getfield 15, 3) := by decide +kernel
theorem dX1_dropMove_16 : decode cX1_dropMove 16 = .ok (.iload_n 2, 1) := by decide +kernel
theorem dX1_dropMove_17 : decode cX1_dropMove 17 = .ok (.aload_n 0, 1) := by decide +kernel
theorem dX1_dropMove_18 : decode cX1_dropMove 18 = .ok (.getfield 15, 3) := by decide +kernel
theorem dX1_dropMove_21 : decode cX1_dropMove 21 = .ok (.iload_n 2, 1) := by decide +kernel
theorem dX1_dropMove_22 : decode cX1_dropMove 22 = .ok (.iconst 1, 1) := by decide +kernel
theorem dX1_dropMove_23 : decode cX1_dropMove 23 = .ok (.iadd, 1) := by decide +kernel
theorem dX1_dropMove_24 : decode cX1_dropMove 24 = .ok (.iaload, 1) := by decide +kernel
theorem dX1_dropMove_25 : decode cX1_dropMove 25 = .ok (.iastore, 1) := by decide +kernel
theorem dX1_dropMove_26 : decode cX1_dropMove 26 = .ok (.aload_n 0, 1) := by decide +kernel
theorem dX1_dropMove_27 : decode cX1_dropMove 27 = .ok (.getfield 18, 3) := by decide +kernel
theorem dX1_dropMove_30 : decode cX1_dropMove 30 = .ok (.iload_n 2, 1) := by decide +kernel
theorem dX1_dropMove_31 : decode cX1_dropMove 31 = .ok (.aload_n 0, 1) := by decide +kernel
theorem dX1_dropMove_32 : decode cX1_dropMove 32 = .ok (.getfield 18, 3) := by decide +kernel
theorem dX1_dropMove_35 : decode cX1_dropMove 35 = .ok (.iload_n 2, 1) := by decide +kernel
theorem dX1_dropMove_36 : decode cX1_dropMove 36 = .ok (.iconst 1, 1) := by decide +kernel
theorem dX1_dropMove_37 : decode cX1_dropMove 37 = .ok (.iadd, 1) := by decide +kernel
theorem dX1_dropMove_38 : decode cX1_dropMove 38 = .ok (.iaload, 1) := by decide +kernel
theorem dX1_dropMove_39 : decode cX1_dropMove 39 = .ok (.iastore, 1) := by decide +kernel
theorem dX1_dropMove_40 : decode cX1_dropMove 40 = .ok (.iinc 2 1, 3) := by decide +kernel
theorem dX1_dropMove_43 : decode cX1_dropMove 43 = .ok (.goto (-41), 3) := by decide +kernel
theorem dX1_dropMove_46 : decode cX1_dropMove 46 = .ok (.aload_n 0, 1) := by decide +kernel
theorem dX1_dropMove_47 : decode cX1_dropMove 47 = .ok (.dup, 1) := by decide +kernel
theorem dX1_dropMove_48 : decode cX1_dropMove 48 = .ok (.getfield 31, 3) := by decide +kernel
theorem dX1_dropMove_51 : decode cX1_dropMove 51 = .ok (.iconst 1, 1) := by decide +kernel
theorem dX1_dropMove_52 : decode cX1_dropMove 52 = .ok (.isub, 1) := by decide +kernel
theorem dX1_dropMove_53 : decode cX1_dropMove 53 = .ok (.putfield 31, 3) := by decide +kernel
theorem dX1_dropMove_56 : decode cX1_dropMove 56 = .ok (.return_, 1) := by decide +kernel
theorem dX1_bringToFront_0 : decode cX1_bringToFront 0 = .ok (.aload_n 0, 1) := by decide +kernel
theorem dX1_bringToFront_1 : decode cX1_bringToFront 1 = .ok (.getfield 15, 3) := by decide +kernel
theorem dX1_bringToFront_4 : decode cX1_bringToFront 4 = .ok (.iload_n 1, 1) := by decide +kernel
theorem dX1_bringToFront_5 : decode cX1_bringToFront 5 = .ok (.iaload, 1) := by decide +kernel
theorem dX1_bringToFront_6 : decode cX1_bringToFront 6 = .ok (.istore_n 2, 1) := by decide +kernel
theorem dX1_bringToFront_7 : decode cX1_bringToFront 7 = .ok (.aload_n 0, 1) := by decide +kernel
theorem dX1_bringToFront_8 : decode cX1_bringToFront 8 = .ok (.getfield 18, 3) := by decide +kernel
theorem dX1_bringToFront_11 : decode cX1_bringToFront 11 = .ok (.iload_n 1, 1) := by decide +kernel
theorem dX1_bringToFront_12 : decode cX1_bringToFront 12 = .ok (.iaload, 1) := by decide +kernel
theorem dX1_bringToFront_13 : decode cX1_bringToFront 13 = .ok (.istore_n 3, 1) := by decide +kernel
theorem dX1_bringToFront_14 : decode cX1_bringToFront 14 = .ok (.iload_n 1, 1) := by decide +kernel
theorem dX1_bringToFront_15 : decode cX1_bringToFront 15 = .ok (.istore 4, 2) := by decide +kernel
theorem dX1_bringToFront_17 : decode cX1_bringToFront 17 = .ok (.iload 4, 2) := by decide +kernel
theorem dX1_bringToFront_19 : decode cX1_bringToFront 19 = .ok (.ifCond .le 41, 3) := by decide +kernel
theorem dX1_bringToFront_22 : decode cX1_bringToFront 22 = .ok (.aload_n 0, 1) := by decide +kernel
theorem dX1_bringToFront_23 : decode cX1_bringToFront 23 = .ok (.getfield 15, 3) := by decide +kernel
theorem dX1_bringToFront_26 : decode cX1_bringToFront 26 = .ok (.iload 4, 2) := by decide +kernel
theorem dX1_bringToFront_28 : decode cX1_bringToFront 28 = .ok (.aload_n 0, 1) := by decide +kernel
theorem dX1_bringToFront_29 : decode cX1_bringToFront 29 = .ok (.getfield 15, 3) := by decide +kernel
theorem dX1_bringToFront_32 : decode cX1_bringToFront 32 = .ok (.iload 4, 2) := by decide +kernel
theorem dX1_bringToFront_34 : decode cX1_bringToFront 34 = .ok (.iconst 1, 1) := by decide +kernel
theorem dX1_bringToFront_35 : decode cX1_bringToFront 35 = .ok (.isub, 1) := by decide +kernel
theorem dX1_bringToFront_36 : decode cX1_bringToFront 36 = .ok (.iaload, 1) := by decide +kernel
theorem dX1_bringToFront_37 : decode cX1_bringToFront 37 = .ok (.iastore, 1) := by decide +kernel
theorem dX1_bringToFront_38 : decode cX1_bringToFront 38 = .ok (.aload_n 0, 1) := by decide +kernel
theorem dX1_bringToFront_39 : decode cX1_bringToFront 39 = .ok (.getfield 18, 3) := by decide +kernel
theorem dX1_bringToFront_42 : decode cX1_bringToFront 42 = .ok (.iload 4, 2) := by decide +kernel
theorem dX1_bringToFront_44 : decode cX1_bringToFront 44 = .ok (.aload_n 0, 1) := by decide +kernel
theorem dX1_bringToFront_45 : decode cX1_bringToFront 45 = .ok (.getfield 18, 3) := by decide +kernel
theorem dX1_bringToFront_48 : decode cX1_bringToFront 48 = .ok (.iload 4, 2) := by decide +kernel
theorem dX1_bringToFront_50 : decode cX1_bringToFront 50 = .ok (.iconst 1, 1) := by decide +kernel
theorem dX1_bringToFront_51 : decode cX1_bringToFront 51 = .ok (.isub, 1) := by decide +kernel
theorem dX1_bringToFront_52 : decode cX1_bringToFront 52 = .ok (.iaload, 1) := by decide +kernel
theorem dX1_bringToFront_53 : decode cX1_bringToFront 53 = .ok (.iastore, 1) := by decide +kernel
theorem dX1_bringToFront_54 : decode cX1_bringToFront 54 = .ok (.iinc 4 (-1), 3) := by decide +kernel
theorem dX1_bringToFront_57 : decode cX1_bringToFront 57 = .ok (.goto (-40), 3) := by decide +kernel
theorem dX1_bringToFront_60 : decode cX1_bringToFront 60 = .ok (.aload_n 0, 1) := by decide +kernel
theorem dX1_bringToFront_61 : decode cX1_bringToFront 61 = .ok (.getfield 15, 3) := by decide +kernel
theorem dX1_bringToFront_64 : decode cX1_bringToFront 64 = .ok (.iconst 0, 1) := by decide +kernel
theorem dX1_bringToFront_65 : decode cX1_bringToFront 65 = .ok (.iload_n 2, 1) := by decide +kernel
theorem dX1_bringToFront_66 : decode cX1_bringToFront 66 = .ok (.iastore, 1) := by decide +kernel
theorem dX1_bringToFront_67 : decode cX1_bringToFront 67 = .ok (.aload_n 0, 1) := by decide +kernel
theorem dX1_bringToFront_68 : decode cX1_bringToFront 68 = .ok (.getfield 18, 3) := by decide +kernel
theorem dX1_bringToFront_71 : decode cX1_bringToFront 71 = .ok (.iconst 0, 1) := by decide +kernel
theorem dX1_bringToFront_72 : decode cX1_bringToFront 72 = .ok (.iload_n 3, 1) := by decide +kernel
theorem dX1_bringToFront_73 : decode cX1_bringToFront 73 = .ok (.iastore, 1) := by decide +kernel
theorem dX1_bringToFront_74 : decode cX1_bringToFront 74 = .ok (.return_, 1) := by decide +kernel
theorem dX1_layAt_0 : decode cX1_layAt 0 = .ok (.aload_n 0, 1) := by decide +kernel
theorem dX1_layAt_1 : decode cX1_layAt 1 = .ok (.iload_n 1, 1) := by decide +kernel
theorem dX1_layAt_2 : decode cX1_layAt 2 = .ok (.putfield 34, 3) := by decide +kernel
theorem dX1_layAt_5 : decode cX1_layAt 5 = .ok (.aload_n 0, 1) := by decide +kernel
theorem dX1_layAt_6 : decode cX1_layAt 6 = .ok (.iconst 0, 1) := by decide +kernel
theorem dX1_layAt_7 : decode cX1_layAt 7 = .ok (.putfield 37, 3) := by decide +kernel
theorem dX1_layAt_10 : decode cX1_layAt 10 = .ok (.iconst 0, 1) := by decide +kernel
theorem dX1_layAt_11 : decode cX1_layAt 11 = .ok (.istore_n 2, 1) := by decide +kernel
theorem dX1_layAt_12 : decode cX1_layAt 12 = .ok (.iload_n 2, 1) := by decide +kernel
theorem dX1_layAt_13 : decode cX1_layAt 13 = .ok (.bipush 10, 2) := by decide +kernel
theorem dX1_layAt_15 : decode cX1_layAt 15 = .ok (.if_icmp .ge 16, 3) := by decide +kernel
theorem dX1_layAt_18 : decode cX1_layAt 18 = .ok (.aload_n 0, 1) := by decide +kernel
theorem dX1_layAt_19 : decode cX1_layAt 19 = .ok (.getfield 21, 3) := by decide +kernel
theorem dX1_layAt_22 : decode cX1_layAt 22 = .ok (.iload_n 2, 1) := by decide +kernel
theorem dX1_layAt_23 : decode cX1_layAt 23 = .ok (.iconst 0, 1) := by decide +kernel
theorem dX1_layAt_24 : decode cX1_layAt 24 = .ok (.iastore, 1) := by decide +kernel
theorem dX1_layAt_25 : decode cX1_layAt 25 = .ok (.iinc 2 1, 3) := by decide +kernel
theorem dX1_layAt_28 : decode cX1_layAt 28 = .ok (.goto (-16), 3) := by decide +kernel
theorem dX1_layAt_31 : decode cX1_layAt 31 = .ok (.aload_n 0, 1) := by decide +kernel
theorem dX1_layAt_32 : decode cX1_layAt 32 = .ok (.getfield 21, 3) := by decide +kernel
theorem dX1_layAt_35 : decode cX1_layAt 35 = .ok (.aload_n 0, 1) := by decide +kernel
theorem dX1_layAt_36 : decode cX1_layAt 36 = .ok (.getfield 9, 3) := by decide +kernel
theorem dX1_layAt_39 : decode cX1_layAt 39 = .ok (.iload_n 1, 1) := by decide +kernel
theorem dX1_layAt_40 : decode cX1_layAt 40 = .ok (.iaload, 1) := by decide +kernel
theorem dX1_layAt_41 : decode cX1_layAt 41 = .ok (.iconst 1, 1) := by decide +kernel
theorem dX1_layAt_42 : decode cX1_layAt 42 = .ok (.iastore, 1) := by decide +kernel
theorem dX1_layAt_43 : decode cX1_layAt 43 = .ok (.return_, 1) := by decide +kernel
theorem dX1_step_0 : decode cX1_step 0 = .ok (.aload_n 0, 1) := by decide +kernel
theorem dX1_step_1 : decode cX1_step 1 = .ok (.aload_n 0, 1) := by decide +kernel
theorem dX1_step_2 : decode cX1_step 2 = .ok (.getfield 18, 3) := by decide +kernel
theorem dX1_step_5 : decode cX1_step 5 = .ok (.iload_n 1, 1) := by decide +kernel
theorem dX1_step_6 : decode cX1_step 6 = .ok (.iaload, 1) := by decide +kernel
theorem dX1_step_7 : decode cX1_step 7 = .ok (.putfield 34, 3) := by decide +kernel
theorem dX1_step_10 : decode cX1_step 10 = .ok (.aload_n 0, 1) := by decide +kernel
theorem dX1_step_11 : decode cX1_step 11 = .ok (.dup, 1) := by decide +kernel
theorem dX1_step_12 : decode cX1_step 12 = .ok (.getfield 37, 3) := by decide +kernel
theorem dX1_step_15 : decode cX1_step 15 = .ok (.iconst 1, 1) := by decide +kernel
theorem dX1_step_16 : decode cX1_step 16 = .ok (.iadd, 1) := by decide +kernel
theorem dX1_step_17 : decode cX1_step 17 = .ok (.putfield 37, 3) := by decide +kernel
theorem dX1_step_20 : decode cX1_step 20 = .ok (.aload_n 0, 1) := by decide +kernel
theorem dX1_step_21 : decode cX1_step 21 = .ok (.getfield 21, 3) := by decide +kernel
theorem dX1_step_24 : decode cX1_step 24 = .ok (.aload_n 0, 1) := by decide +kernel
theorem dX1_step_25 : decode cX1_step 25 = .ok (.getfield 9, 3) := by decide +kernel
theorem dX1_step_28 : decode cX1_step 28 = .ok (.aload_n 0, 1) := by decide +kernel
theorem dX1_step_29 : decode cX1_step 29 = .ok (.getfield 34, 3) := by decide +kernel
theorem dX1_step_32 : decode cX1_step 32 = .ok (.iaload, 1) := by decide +kernel
theorem dX1_step_33 : decode cX1_step 33 = .ok (.dup2, 1) := by decide +kernel
theorem dX1_step_34 : decode cX1_step 34 = .ok (.iaload, 1) := by decide +kernel
theorem dX1_step_35 : decode cX1_step 35 = .ok (.iconst 1, 1) := by decide +kernel
theorem dX1_step_36 : decode cX1_step 36 = .ok (.iadd, 1) := by decide +kernel
theorem dX1_step_37 : decode cX1_step 37 = .ok (.iastore, 1) := by decide +kernel
theorem dX1_step_38 : decode cX1_step 38 = .ok (.return_, 1) := by decide +kernel
set_option maxRecDepth 20000 in
theorem ggX2_init_X1_init : GoodIn wsX2_init wsX1_init := goodIn_r _ [9, 10, 2, 3, 11, 12, 13, 14, 15, 19, 20, 21, 22, 23, 24, 25, 26, 27] (by decide +kernel) (by decide +kernel)
set_option maxRecDepth 20000 in
theorem gX2_init_X1_init_n17 : GoodIn wsX2_init (wsX1_init) := ggX2_init_X1_init
theorem dX2_init_0 : decode cX2_init 0 = .ok (.aload_n 0, 1) := by decide +kernel
theorem dX2_init_1 : decode cX2_init 1 = .ok (.invokespecial 3, 3) := by decide +kernel
theorem dX2_init_4 : decode cX2_init 4 = .ok (.aload_n 0, 1) := by decide +kernel
theorem dX2_init_5 : decode cX2_init 5 = .ok (.bipush 10, 2) := by decide +kernel
theorem dX2_init_7 : decode cX2_init 7 = .ok (.anewarray 9, 3) := by decide +kernel
theorem dX2_init_10 : decode cX2_init 10 = .ok (.putfield 11, 3) := by decide +kernel
theorem dX2_init_13 : decode cX2_init 13 = .ok (.iconst 0, 1) := by decide +kernel
theorem dX2_init_14 : decode cX2_init 14 = .ok (.istore_n 1, 1) := by decide +kernel
theorem dX2_init_15 : decode cX2_init 15 = .ok (.iload_n 1, 1) := by decide +kernel
theorem dX2_init_16 : decode cX2_init 16 = .ok (.bipush 10, 2) := by decide +kernel
theorem dX2_init_18 : decode cX2_init 18 = .ok (.if_icmp .ge 22, 3) := by decide +kernel
theorem dX2_init_21 : decode cX2_init 21 = .ok (.aload_n 0, 1) := by decide +kernel
theorem dX2_init_22 : decode cX2_init 22 = .ok (.getfield 11, 3) := by decide +kernel
theorem dX2_init_25 : decode cX2_init 25 = .ok (.iload_n 1, 1) := by decide +kernel
theorem dX2_init_26 : decode cX2_init 26 = .ok (.new 9, 3) := by decide +kernel
theorem dX2_init_29 : decode cX2_init 29 = .ok (.dup, 1) := by decide +kernel
theorem dX2_init_30 : decode cX2_init 30 = .ok (.invokespecial 17, 3) := by decide +kernel
theorem dX2_init_33 : decode cX2_init 33 = .ok (.aastore, 1) := by decide +kernel
theorem dX2_init_34 : decode cX2_init 34 = .ok (.iinc 1 1, 3) := by decide +kernel
theorem dX2_init_37 : decode cX2_init 37 = .ok (.goto (-22), 3) := by decide +kernel
theorem dX2_init_40 : decode cX2_init 40 = .ok (.return_, 1) := by decide +kernel
theorem dX2_clear_0 : decode cX2_clear 0 = .ok (.aload_n 0, 1) := by decide +kernel
theorem dX2_clear_1 : decode cX2_clear 1 = .ok (.iconst 0, 1) := by decide +kernel
theorem dX2_clear_2 : decode cX2_clear 2 = .ok (.putfield 18, 3) := by decide +kernel
theorem dX2_clear_5 : decode cX2_clear 5 = .ok (.aload_n 0, 1) := by decide +kernel
theorem dX2_clear_6 : decode cX2_clear 6 = .ok (.iconst 0, 1) := by decide +kernel
theorem dX2_clear_7 : decode cX2_clear 7 = .ok (.putfield 22, 3) := by decide +kernel
theorem dX2_clear_10 : decode cX2_clear 10 = .ok (.return_, 1) := by decide +kernel
set_option maxRecDepth 20000 in
theorem ggX2_keep_X1_copy : GoodIn wsX2_keep wsX1_copy := goodIn_r _ [8, 9, 10, 11, 12, 13, 14, 15, 16, 17, 18, 19, 20, 21, 25, 26, 27, 28, 29, 30, 31, 32, 33] (by decide +kernel) (by decide +kernel)
set_option maxRecDepth 20000 in
theorem gX2_keep_X1_copy : GoodIn wsX2_keep (wsV RX2 25 RX1 yX1_copy wsX1_copy) := goodIn_app (goodIn_of _ (by decide +kernel)) ggX2_keep_X1_copy
theorem dX2_keep_0 : decode cX2_keep 0 = .ok (.aload_n 0, 1) := by decide +kernel
theorem dX2_keep_1 : decode cX2_keep 1 = .ok (.getfield 11, 3) := by decide +kernel
theorem dX2_keep_4 : decode cX2_keep 4 = .ok (.aload_n 0, 1) := by decide +kernel
theorem dX2_keep_5 : decode cX2_keep 5 = .ok (.getfield 18, 3) := by decide +kernel
theorem dX2_keep_8 : decode cX2_keep 8 = .ok (.aload_n 0, 1) := by decide +kernel
theorem dX2_keep_9 : decode cX2_keep 9 = .ok (.getfield 22, 3) := by decide +kernel
theorem dX2_keep_12 : decode cX2_keep 12 = .ok (.iadd, 1) := by decide +kernel
theorem dX2_keep_13 : decode cX2_keep 13 = .ok (.bipush 10, 2) := by decide +kernel
theorem dX2_keep_15 : decode cX2_keep 15 = .ok (.irem, 1) := by decide +kernel
theorem dX2_keep_16 : decode cX2_keep 16 = .ok (.aaload, 1) := by decide +kernel
theorem dX2_keep_17 : decode cX2_keep 17 = .ok (.aload_n 1, 1) := by decide +kernel
theorem dX2_keep_18 : decode cX2_keep 18 = .ok (.invokevirtual 25, 3) := by decide +kernel
theorem dX2_keep_21 : decode cX2_keep 21 = .ok (.aload_n 0, 1) := by decide +kernel
theorem dX2_keep_22 : decode cX2_keep 22 = .ok (.getfield 22, 3) := by decide +kernel
theorem dX2_keep_25 : decode cX2_keep 25 = .ok (.bipush 10, 2) := by decide +kernel
theorem dX2_keep_27 : decode cX2_keep 27 = .ok (.if_icmp .ge 16, 3) := by decide +kernel
theorem dX2_keep_30 : decode cX2_keep 30 = .ok (.aload_n 0, 1) := by decide +kernel
theorem dX2_keep_31 : decode cX2_keep 31 = .ok (.dup, 1) := by decide +kernel
theorem dX2_keep_32 : decode cX2_keep 32 = .ok (.getfield 22, 3) := by decide +kernel
theorem dX2_keep_35 : decode cX2_keep 35 = .ok (.iconst 1, 1) := by decide +kernel
theorem dX2_keep_36 : decode cX2_keep 36 = .ok (.iadd, 1) := by decide +kernel
theorem dX2_keep_37 : decode cX2_keep 37 = .ok (.putfield 22, 3) := by decide +kernel
theorem dX2_keep_40 : decode cX2_keep 40 = .ok (.goto 16, 3) := by decide +kernel
theorem dX2_keep_43 : decode cX2_keep 43 = .ok (.aload_n 0, 1) := by decide +kernel
theorem dX2_keep_44 : decode cX2_keep 44 = .ok (.aload_n 0, 1) := by decide +kernel
theorem dX2_keep_45 : decode cX2_keep 45 = .ok (.getfield 18, 3) := by decide +kernel
theorem dX2_keep_48 : decode cX2_keep 48 = .ok (.iconst 1, 1) := by decide +kernel
theorem dX2_keep_49 : decode cX2_keep 49 = .ok (.iadd, 1) := by decide +kernel
theorem dX2_keep_50 : decode cX2_keep 50 = .ok (.bipush 10, 2) := by decide +kernel
theorem dX2_keep_52 : decode cX2_keep 52 = .ok (.irem, 1) := by decide +kernel
theorem dX2_keep_53 : decode cX2_keep 53 = .ok (.putfield 18, 3) := by decide +kernel
theorem dX2_keep_56 : decode cX2_keep 56 = .ok (.return_, 1) := by decide +kernel
set_option maxRecDepth 20000 in
theorem ggX2_takeLatest_X1_copy : GoodIn wsX2_takeLatest wsX1_copy := goodIn_r _ [8, 9, 10, 11, 12, 13, 14, 15, 16, 17, 18, 19, 20, 21, 25, 26, 27, 28, 29, 30, 31, 32, 33] (by decide +kernel) (by decide +kernel)
set_option maxRecDepth 20000 in
theorem gX2_takeLatest_X1_copy : GoodIn wsX2_takeLatest (wsV RX2 25 RX1 yX1_copy wsX1_copy) := goodIn_app (goodIn_of _ (by decide +kernel)) ggX2_takeLatest_X1_copy
theorem dX2_takeLatest_0 : decode cX2_takeLatest 0 = .ok (.aload_n 0, 1) := by decide +kernel
theorem dX2_takeLatest_1 : decode cX2_takeLatest 1 = .ok (.getfield 22, 3) := by decide +kernel
theorem dX2_takeLatest_4 : decode cX2_takeLatest 4 = .ok (.ifCond .le 34, 3) := by decide +kernel
theorem dX2_takeLatest_7 : decode cX2_takeLatest 7 = .ok (.aload_n 0, 1) := by decide +kernel
theorem dX2_takeLatest_8 : decode cX2_takeLatest 8 = .ok (.dup, 1) := by decide +kernel
theorem dX2_takeLatest_9 : decode cX2_takeLatest 9 = .ok (.getfield 22, 3) := by decide +kernel
theorem dX2_takeLatest_12 : decode cX2_takeLatest 12 = .ok (.iconst 1, 1) := by decide +kernel
theorem dX2_takeLatest_13 : decode cX2_takeLatest 13 = .ok (.isub, 1) := by decide +kernel
theorem dX2_takeLatest_14 : decode cX2_takeLatest 14 = .ok (.putfield 22, 3) := by decide +kernel
theorem dX2_takeLatest_17 : decode cX2_takeLatest 17 = .ok (.aload_n 1, 1) := by decide +kernel
theorem dX2_takeLatest_18 : decode cX2_takeLatest 18 = .ok (.aload_n 0, 1) := by decide +kernel
theorem dX2_takeLatest_19 : decode cX2_takeLatest 19 = .ok (.getfield 11, 3) := by decide +kernel
theorem dX2_takeLatest_22 : decode cX2_takeLatest 22 = .ok (.aload_n 0, 1) := by decide +kernel
theorem dX2_takeLatest_23 : decode cX2_takeLatest 23 = .ok (.getfield 18, 3) := by decide +kernel
theorem dX2_takeLatest_26 : decode cX2_takeLatest 26 = .ok (.aload_n 0, 1) := by decide +kernel
theorem dX2_takeLatest_27 : decode cX2_takeLatest 27 = .ok (.getfield 22, 3) := by decide +kernel
theorem dX2_takeLatest_30 : decode cX2_takeLatest 30 = .ok (.iadd, 1) := by decide +kernel
theorem dX2_takeLatest_31 : decode cX2_takeLatest 31 = .ok (.bipush 10, 2) := by decide +kernel
theorem dX2_takeLatest_33 : decode cX2_takeLatest 33 = .ok (.irem, 1) := by decide +kernel
theorem dX2_takeLatest_34 : decode cX2_takeLatest 34 = .ok (.aaload, 1) := by decide +kernel
theorem dX2_takeLatest_35 : decode cX2_takeLatest 35 = .ok (.invokevirtual 25, 3) := by decide +kernel
theorem dX2_takeLatest_38 : decode cX2_takeLatest 38 = .ok (.return_, 1) := by decide +kernel
theorem dX3_init_0 : decode cX3_init 0 = .ok (.aload_n 0, 1) := by decide +kernel
theorem dX3_init_1 : decode cX3_init 1 = .ok (.invokespecial 3, 3) := by decide +kernel
theorem dX3_init_4 : decode cX3_init 4 = .ok (.aload_n 0, 1) := by decide +kernel
theorem dX3_init_5 : decode cX3_init 5 = .ok (.bipush 20, 2) := by decide +kernel
theorem dX3_init_7 : decode cX3_init 7 = .ok (.newarray .int, 2) := by decide +kernel
theorem dX3_init_9 : decode cX3_init 9 = .ok (.putfield 9, 3) := by decide +kernel
theorem dX3_init_12 : decode cX3_init 12 = .ok (.aload_n 0, 1) := by decide +kernel
theorem dX3_init_13 : decode cX3_init 13 = .ok (.aload_n 1, 1) := by decide +kernel
theorem dX3_init_14 : decode cX3_init 14 = .ok (.putfield 15, 3) := by decide +kernel
theorem dX3_init_17 : decode cX3_init 17 = .ok (.return_, 1) := by decide +kernel
theorem dX3_forget_0 : decode cX3_forget 0 = .ok (.aload_n 0, 1) := by decide +kernel
theorem dX3_forget_1 : decode cX3_forget 1 = .ok (.iconst 0, 1) := by decide +kernel
theorem dX3_forget_2 : decode cX3_forget 2 = .ok (.putfield 19, 3) := by decide +kernel
theorem dX3_forget_5 : decode cX3_forget 5 = .ok (.aload_n 0, 1) := by decide +kernel
theorem dX3_forget_6 : decode cX3_forget 6 = .ok (.iconst 0, 1) := by decide +kernel
theorem dX3_forget_7 : decode cX3_forget 7 = .ok (.putfield 23, 3) := by decide +kernel
theorem dX3_forget_10 : decode cX3_forget 10 = .ok (.return_, 1) := by decide +kernel
set_option maxRecDepth 20000 in
theorem ggX3_wonBy_X0_take : GoodIn wsX3_wonBy wsX0_take := goodIn_r _ [9, 10, 11, 12, 13, 14, 15, 16, 17, 18, 19, 20, 21, 22, 23, 8, 24, 53, 54, 55, 56, 57, 58, 59, 60, 61, 62, 63, 64, 65, 66] (by decide +kernel) (by decide +kernel)
set_option maxRecDepth 20000 in
theorem gX3_wonBy_X0_take : GoodIn wsX3_wonBy (wsV RX3 26 RX0 yX0_take wsX0_take) := goodIn_app (goodIn_of _ (by decide +kernel)) ggX3_wonBy_X0_take
set_option maxRecDepth 20000 in
theorem ggX3_wonBy_X0_wonBy : GoodIn wsX3_wonBy wsX0_wonBy := goodIn_r _ [28, 13, 12, 29, 30, 31, 8, 32, 11, 17, 33, 34, 35, 36, 37, 38, 39, 40, 41, 42, 43, 15, 44, 45, 46, 47, 62, 63, 64, 65, 66] (by decide +kernel) (by decide +kernel)
set_option maxRecDepth 20000 in
theorem gX3_wonBy_X0_wonBy : GoodIn wsX3_wonBy (wsV RX3 32 RX0 yX0_wonBy wsX0_wonBy) := goodIn_app (goodIn_of _ (by decide +kernel)) ggX3_wonBy_X0_wonBy
theorem dX3_wonBy_0 : decode cX3_wonBy 0 = .ok (.aload_n 0, 1) := by decide +kernel
theorem dX3_wonBy_1 : decode cX3_wonBy 1 = .ok (.getfield 19, 3) := by decide +kernel
theorem dX3_wonBy_4 : decode cX3_wonBy 4 = .ok (.ifCond .ne 28, 3) := by decide +kernel
theorem dX3_wonBy_7 : decode cX3_wonBy 7 = .ok (.aload_n 0, 1) := by decide +kernel
theorem dX3_wonBy_8 : decode cX3_wonBy 8 = .ok (.getfield 15, 3) := by decide +kernel
theorem dX3_wonBy_11 : decode cX3_wonBy 11 = .ok (.aload_n 1, 1) := by decide +kernel
theorem dX3_wonBy_12 : decode cX3_wonBy 12 = .ok (.invokevirtual 26, 3) := by decide +kernel
theorem dX3_wonBy_15 : decode cX3_wonBy 15 = .ok (.aload_n 0, 1) := by decide +kernel
theorem dX3_wonBy_16 : decode cX3_wonBy 16 = .ok (.aload_n 0, 1) := by decide +kernel
theorem dX3_wonBy_17 : decode cX3_wonBy 17 = .ok (.getfield 15, 3) := by decide +kernel
theorem dX3_wonBy_20 : decode cX3_wonBy 20 = .ok (.iconst 0, 1) := by decide +kernel
theorem dX3_wonBy_21 : decode cX3_wonBy 21 = .ok (.invokevirtual 32, 3) := by decide +kernel
theorem dX3_wonBy_24 : decode cX3_wonBy 24 = .ok (.putfield 36, 3) := by decide +kernel
theorem dX3_wonBy_27 : decode cX3_wonBy 27 = .ok (.aload_n 0, 1) := by decide +kernel
theorem dX3_wonBy_28 : decode cX3_wonBy 28 = .ok (.iconst 1, 1) := by decide +kernel
theorem dX3_wonBy_29 : decode cX3_wonBy 29 = .ok (.putfield 19, 3) := by decide +kernel
theorem dX3_wonBy_32 : decode cX3_wonBy 32 = .ok (.iload_n 2, 1) := by decide +kernel
theorem dX3_wonBy_33 : decode cX3_wonBy 33 = .ok (.ifCond .ne 10, 3) := by decide +kernel
theorem dX3_wonBy_36 : decode cX3_wonBy 36 = .ok (.aload_n 0, 1) := by decide +kernel
theorem dX3_wonBy_37 : decode cX3_wonBy 37 = .ok (.getfield 36, 3) := by decide +kernel
theorem dX3_wonBy_40 : decode cX3_wonBy 40 = .ok (.goto 18, 3) := by decide +kernel
theorem dX3_wonBy_43 : decode cX3_wonBy 43 = .ok (.iconst 1, 1) := by decide +kernel
theorem dX3_wonBy_44 : decode cX3_wonBy 44 = .ok (.aload_n 1, 1) := by decide +kernel
theorem dX3_wonBy_45 : decode cX3_wonBy 45 = .ok (.getfield 40, 3) := by decide +kernel
theorem dX3_wonBy_48 : decode cX3_wonBy 48 = .ok (.ishl, 1) := by decide +kernel
theorem dX3_wonBy_49 : decode cX3_wonBy 49 = .ok (.iconst 1, 1) := by decide +kernel
theorem dX3_wonBy_50 : decode cX3_wonBy 50 = .ok (.isub, 1) := by decide +kernel
theorem dX3_wonBy_51 : decode cX3_wonBy 51 = .ok (.aload_n 0, 1) := by decide +kernel
theorem dX3_wonBy_52 : decode cX3_wonBy 52 = .ok (.getfield 36, 3) := by decide +kernel
theorem dX3_wonBy_55 : decode cX3_wonBy 55 = .ok (.iconst (-1), 1) := by decide +kernel
theorem dX3_wonBy_56 : decode cX3_wonBy 56 = .ok (.ixor, 1) := by decide +kernel
theorem dX3_wonBy_57 : decode cX3_wonBy 57 = .ok (.iand, 1) := by decide +kernel
theorem dX3_wonBy_58 : decode cX3_wonBy 58 = .ok (.ireturn, 1) := by decide +kernel
set_option maxRecDepth 20000 in
theorem ggX3_choose_X3_wonBy : GoodIn wsX3_choose wsX3_wonBy := goodIn_r _ [9, 10, 2, 11, 3, 12, 13, 14, 15, 16, 17, 18, 19, 20, 21, 22, 23, 24, 25, 26, 27, 28, 29, 30, 31, 32, 33, 34, 35, 36, 37, 38, 39, 40, 41, 42, 43, 44, 45, 46, 47, 48, 49, 50, 51, 52, 53, 54, 78, 79, 80, 81, 82, 83, 84, 85, 86, 87, 88, 89, 90, 91, 92, 93, 94, 95, 96] (by decide +kernel) (by decide +kernel)
set_option maxRecDepth 20000 in
theorem gX3_choose_X3_wonBy : GoodIn wsX3_choose (wsV RX3 45 RX3 yX3_wonBy wsX3_wonBy) := goodIn_app (goodIn_of _ (by decide +kernel)) ggX3_choose_X3_wonBy
set_option maxRecDepth 20000 in
theorem ggX3_choose_X0_take : GoodIn wsX3_choose wsX0_take := goodIn_r _ [16, 17, 18, 19, 20, 21, 22, 23, 24, 25, 26, 27, 28, 29, 30, 15, 31, 83, 84, 85, 86, 87, 88, 89, 90, 91, 92, 93, 94, 95, 96] (by decide +kernel) (by decide +kernel)
set_option maxRecDepth 20000 in
theorem gX3_choose_X0_take : GoodIn wsX3_choose (wsV RX3 26 RX0 yX0_take wsX0_take) := goodIn_app (goodIn_of _ (by decide +kernel)) ggX3_choose_X0_take
set_option maxRecDepth 20000 in
theorem ggX3_choose_X1_ownerOf : GoodIn wsX3_choose wsX1_ownerOf := goodIn_r _ [59, 60, 83, 84, 85, 86, 87, 88, 89, 90, 91] (by decide +kernel) (by decide +kernel)
set_option maxRecDepth 20000 in
theorem gX3_choose_X1_ownerOf : GoodIn wsX3_choose (wsV RX3 48 RX1 yX1_ownerOf wsX1_ownerOf) := goodIn_app (goodIn_of _ (by decide +kernel)) ggX3_choose_X1_ownerOf
set_option maxRecDepth 20000 in
theorem ggX3_choose_X5_has : GoodIn wsX3_choose wsX5_has := goodIn_r _ [63] (by decide +kernel) (by decide +kernel)
set_option maxRecDepth 20000 in
theorem gX3_choose_X5_has_n51 : GoodIn wsX3_choose (wsX5_has) := ggX3_choose_X5_has
set_option maxRecDepth 20000 in
theorem ggX3_choose_X3_winningMove : GoodIn wsX3_choose wsX3_winningMove := goodIn_r _ [67, 68, 69, 70, 2, 71, 55, 56, 57, 58, 59, 60, 61, 62, 63, 32, 33, 34, 15, 35, 20, 19, 36, 37, 38, 39, 18, 24, 40, 41, 42, 43, 44, 45, 46, 47, 48, 49, 50, 22, 51, 52, 53, 54, 83, 84, 85, 86, 87, 88, 89, 90, 91, 78, 79, 80, 81, 82, 92, 93, 94, 95, 96] (by decide +kernel) (by decide +kernel)
set_option maxRecDepth 20000 in
theorem gX3_choose_X3_winningMove : GoodIn wsX3_choose (wsV RX3 55 RX3 yX3_winningMove wsX3_winningMove) := goodIn_app (goodIn_of _ (by decide +kernel)) ggX3_choose_X3_winningMove
set_option maxRecDepth 20000 in
theorem ggX3_choose_X1_firstMove : GoodIn wsX3_choose wsX1_firstMove := goodIn_r _ [75, 76, 77, 83, 84, 85, 86, 87, 88, 89, 90, 91] (by decide +kernel) (by decide +kernel)
set_option maxRecDepth 20000 in
theorem gX3_choose_X1_firstMove : GoodIn wsX3_choose (wsV RX3 59 RX1 yX1_firstMove wsX1_firstMove) := goodIn_app (goodIn_of _ (by decide +kernel)) ggX3_choose_X1_firstMove
theorem dX3_choose_0 : decode cX3_choose 0 = .ok (.iconst 0, 1) := by decide +kernel
theorem dX3_choose_1 : decode cX3_choose 1 = .ok (.istore_n 2, 1) := by decide +kernel
theorem dX3_choose_2 : decode cX3_choose 2 = .ok (.iload_n 2, 1) := by decide +kernel
theorem dX3_choose_3 : decode cX3_choose 3 = .ok (.iconst 2, 1) := by decide +kernel
theorem dX3_choose_4 : decode cX3_choose 4 = .ok (.if_icmp .ge 92, 3) := by decide +kernel
theorem dX3_choose_7 : decode cX3_choose 7 = .ok (.aload_n 0, 1) := by decide +kernel
theorem dX3_choose_8 : decode cX3_choose 8 = .ok (.getfield 23, 3) := by decide +kernel
theorem dX3_choose_11 : decode cX3_choose 11 = .ok (.ifCond .ne 85, 3) := by decide +kernel
theorem dX3_choose_14 : decode cX3_choose 14 = .ok (.aload_n 0, 1) := by decide +kernel
theorem dX3_choose_15 : decode cX3_choose 15 = .ok (.aload_n 1, 1) := by decide +kernel
theorem dX3_choose_16 : decode cX3_choose 16 = .ok (.iload_n 2, 1) := by decide +kernel
theorem dX3_choose_17 : decode cX3_choose 17 = .ok (.invokevirtual 45, 3) := by decide +kernel
theorem dX3_choose_20 : decode cX3_choose 20 = .ok (.istore_n 3, 1) := by decide +kernel
theorem dX3_choose_21 : decode cX3_choose 21 = .ok (.aload_n 0, 1) := by decide +kernel
theorem dX3_choose_22 : decode cX3_choose 22 = .ok (.getfield 15, 3) := by decide +kernel
theorem dX3_choose_25 : decode cX3_choose 25 = .ok (.aload_n 1, 1) := by decide +kernel
theorem dX3_choose_26 : decode cX3_choose 26 = .ok (.invokevirtual 26, 3) := by decide +kernel
theorem dX3_choose_29 : decode cX3_choose 29 = .ok (.iconst 0, 1) := by decide +kernel
theorem dX3_choose_30 : decode cX3_choose 30 = .ok (.istore 4, 2) := by decide +kernel
theorem dX3_choose_32 : decode cX3_choose 32 = .ok (.iload 4, 2) := by decide +kernel
theorem dX3_choose_34 : decode cX3_choose 34 = .ok (.aload_n 1, 1) := by decide +kernel
theorem dX3_choose_35 : decode cX3_choose 35 = .ok (.getfield 40, 3) := by decide +kernel
theorem dX3_choose_38 : decode cX3_choose 38 = .ok (.if_icmp .ge 52, 3) := by decide +kernel
theorem dX3_choose_41 : decode cX3_choose 41 = .ok (.aload_n 1, 1) := by decide +kernel
theorem dX3_choose_42 : decode cX3_choose 42 = .ok (.iload 4, 2) := by decide +kernel
theorem dX3_choose_44 : decode cX3_choose 44 = .ok (.invokevirtual 48, 3) := by decide +kernel
theorem dX3_choose_47 : decode cX3_choose 47 = .ok (.iload_n 2, 1) := by decide +kernel
theorem dX3_choose_48 : decode cX3_choose 48 = .ok (.if_icmp .ne 36, 3) := by decide +kernel
theorem dX3_choose_51 : decode cX3_choose 51 = .ok (.aload_n 0, 1) := by decide +kernel
theorem dX3_choose_52 : decode cX3_choose 52 = .ok (.getfield 9, 3) := by decide +kernel
theorem dX3_choose_55 : decode cX3_choose 55 = .ok (.iload 4, 2) := by decide +kernel
theorem dX3_choose_57 : decode cX3_choose 57 = .ok (.iload_n 3, 1) := by decide +kernel
theorem dX3_choose_58 : decode cX3_choose 58 = .ok (.iload 4, 2) := by decide +kernel
theorem dX3_choose_60 : decode cX3_choose 60 = .ok (.invokestatic 51, 3) := by decide +kernel
theorem dX3_choose_63 : decode cX3_choose 63 = .ok (.ifCond .eq 14, 3) := by decide +kernel
theorem dX3_choose_66 : decode cX3_choose 66 = .ok (.aload_n 0, 1) := by decide +kernel
theorem dX3_choose_67 : decode cX3_choose 67 = .ok (.aload_n 1, 1) := by decide +kernel
theorem dX3_choose_68 : decode cX3_choose 68 = .ok (.iload 4, 2) := by decide +kernel
theorem dX3_choose_70 : decode cX3_choose 70 = .ok (.iload_n 3, 1) := by decide +kernel
theorem dX3_choose_71 : decode cX3_choose 71 = .ok (.invokevirtual 55, 3) := by decide +kernel
theorem dX3_choose_74 : decode cX3_choose 74 = .ok (.goto 9, 3) := by decide +kernel
theorem dX3_choose_77 : decode cX3_choose 77 = .ok (.aload_n 1, 1) := by decide +kernel
theorem dX3_choose_78 : decode cX3_choose 78 = .ok (.iload 4, 2) := by decide +kernel
theorem dX3_choose_80 : decode cX3_choose 80 = .ok (.invokevirtual 59, 3) := by decide +kernel
theorem dX3_choose_83 : decode cX3_choose 83 = .ok (.iastore, 1) := by decide +kernel
theorem dX3_choose_84 : decode cX3_choose 84 = .ok (.iinc 4 1, 3) := by decide +kernel
theorem dX3_choose_87 : decode cX3_choose 87 = .ok (.goto (-55), 3) := by decide +kernel
theorem dX3_choose_90 : decode cX3_choose 90 = .ok (.iinc 2 1, 3) := by decide +kernel
theorem dX3_choose_93 : decode cX3_choose 93 = .ok (.goto (-91), 3) := by decide +kernel
theorem dX3_choose_96 : decode cX3_choose 96 = .ok (.aload_n 0, 1) := by decide +kernel
theorem dX3_choose_97 : decode cX3_choose 97 = .ok (.iconst 1, 1) := by decide +kernel
theorem dX3_choose_98 : decode cX3_choose 98 = .ok (.putfield 23, 3) := by decide +kernel
theorem dX3_choose_101 : decode cX3_choose 101 = .ok (.return_, 1) := by decide +kernel
set_option maxRecDepth 20000 in
theorem ggX3_winningMove_X1_ownerOf : GoodIn wsX3_winningMove wsX1_ownerOf := goodIn_r _ [10, 11, 44, 45, 46, 47, 48, 49, 50, 51, 52] (by decide +kernel) (by decide +kernel)
set_option maxRecDepth 20000 in
theorem gX3_winningMove_X1_ownerOf : GoodIn wsX3_winningMove (wsV RX3 48 RX1 yX1_ownerOf wsX1_ownerOf) := goodIn_app (goodIn_of _ (by decide +kernel)) ggX3_winningMove_X1_ownerOf
set_option maxRecDepth 20000 in
theorem ggX3_winningMove_X5_has : GoodIn wsX3_winningMove wsX5_has := goodIn_r _ [14] (by decide +kernel) (by decide +kernel)
set_option maxRecDepth 20000 in
theorem gX3_winningMove_X5_has_n51 : GoodIn wsX3_winningMove (wsX5_has) := ggX3_winningMove_X5_has
set_option maxRecDepth 20000 in
theorem ggX3_winningMove_X0_wonBy : GoodIn wsX3_winningMove wsX0_wonBy := goodIn_r _ [19, 20, 21, 22, 23, 24, 18, 25, 26, 27, 28, 29, 30, 31, 32, 33, 34, 35, 36, 37, 38, 39, 40, 41, 42, 43, 58, 59, 60, 61, 62] (by decide +kernel) (by decide +kernel)
set_option maxRecDepth 20000 in
theorem gX3_winningMove_X0_wonBy : GoodIn wsX3_winningMove (wsV RX3 32 RX0 yX0_wonBy wsX0_wonBy) := goodIn_app (goodIn_of _ (by decide +kernel)) ggX3_winningMove_X0_wonBy
theorem dX3_winningMove_0 : decode cX3_winningMove 0 = .ok (.aload_n 1, 1) := by decide +kernel
theorem dX3_winningMove_1 : decode cX3_winningMove 1 = .ok (.iload_n 2, 1) := by decide +kernel
theorem dX3_winningMove_2 : decode cX3_winningMove 2 = .ok (.invokevirtual 48, 3) := by decide +kernel
theorem dX3_winningMove_5 : decode cX3_winningMove 5 = .ok (.istore 4, 2) := by decide +kernel
theorem dX3_winningMove_7 : decode cX3_winningMove 7 = .ok (.iconst 0, 1) := by decide +kernel
theorem dX3_winningMove_8 : decode cX3_winningMove 8 = .ok (.istore 5, 2) := by decide +kernel
theorem dX3_winningMove_10 : decode cX3_winningMove 10 = .ok (.iload 5, 2) := by decide +kernel
theorem dX3_winningMove_12 : decode cX3_winningMove 12 = .ok (.aload_n 1, 1) := by decide +kernel
theorem dX3_winningMove_13 : decode cX3_winningMove 13 = .ok (.getfield 62, 3) := by decide +kernel
theorem dX3_winningMove_16 : decode cX3_winningMove 16 = .ok (.if_icmp .ge 71, 3) := by decide +kernel
theorem dX3_winningMove_19 : decode cX3_winningMove 19 = .ok (.aload_n 1, 1) := by decide +kernel
theorem dX3_winningMove_20 : decode cX3_winningMove 20 = .ok (.getfield 65, 3) := by decide +kernel
theorem dX3_winningMove_23 : decode cX3_winningMove 23 = .ok (.iload 5, 2) := by decide +kernel
theorem dX3_winningMove_25 : decode cX3_winningMove 25 = .ok (.iaload, 1) := by decide +kernel
theorem dX3_winningMove_26 : decode cX3_winningMove 26 = .ok (.iload_n 2, 1) := by decide +kernel
theorem dX3_winningMove_27 : decode cX3_winningMove 27 = .ok (.if_icmp .ne 54, 3) := by decide +kernel
theorem dX3_winningMove_30 : decode cX3_winningMove 30 = .ok (.iload_n 3, 1) := by decide +kernel
theorem dX3_winningMove_31 : decode cX3_winningMove 31 = .ok (.aload_n 1, 1) := by decide +kernel
theorem dX3_winningMove_32 : decode cX3_winningMove 32 = .ok (.getfield 68, 3) := by decide +kernel
theorem dX3_winningMove_35 : decode cX3_winningMove 35 = .ok (.iload 5, 2) := by decide +kernel
theorem dX3_winningMove_37 : decode cX3_winningMove 37 = .ok (.iaload, 1) := by decide +kernel
theorem dX3_winningMove_38 : decode cX3_winningMove 38 = .ok (.invokestatic 51, 3) := by decide +kernel
theorem dX3_winningMove_41 : decode cX3_winningMove 41 = .ok (.ifCond .eq 40, 3) := by decide +kernel
theorem dX3_winningMove_44 : decode cX3_winningMove 44 = .ok (.aload_n 0, 1) := by decide +kernel
theorem dX3_winningMove_45 : decode cX3_winningMove 45 = .ok (.getfield 15, 3) := by decide +kernel
theorem dX3_winningMove_48 : decode cX3_winningMove 48 = .ok (.getfield 71, 3) := by decide +kernel
theorem dX3_winningMove_51 : decode cX3_winningMove 51 = .ok (.iload_n 2, 1) := by decide +kernel
theorem dX3_winningMove_52 : decode cX3_winningMove 52 = .ok (.iconst 1, 1) := by decide +kernel
theorem dX3_winningMove_53 : decode cX3_winningMove 53 = .ok (.aload_n 1, 1) := by decide +kernel
theorem dX3_winningMove_54 : decode cX3_winningMove 54 = .ok (.getfield 68, 3) := by decide +kernel
theorem dX3_winningMove_57 : decode cX3_winningMove 57 = .ok (.iload 5, 2) := by decide +kernel
theorem dX3_winningMove_59 : decode cX3_winningMove 59 = .ok (.iaload, 1) := by decide +kernel
theorem dX3_winningMove_60 : decode cX3_winningMove 60 = .ok (.ishl, 1) := by decide +kernel
theorem dX3_winningMove_61 : decode cX3_winningMove 61 = .ok (.iastore, 1) := by decide +kernel
theorem dX3_winningMove_62 : decode cX3_winningMove 62 = .ok (.iload_n 3, 1) := by decide +kernel
theorem dX3_winningMove_63 : decode cX3_winningMove 63 = .ok (.aload_n 0, 1) := by decide +kernel
theorem dX3_winningMove_64 : decode cX3_winningMove 64 = .ok (.getfield 15, 3) := by decide +kernel
theorem dX3_winningMove_67 : decode cX3_winningMove 67 = .ok (.iload 4, 2) := by decide +kernel
theorem dX3_winningMove_69 : decode cX3_winningMove 69 = .ok (.invokevirtual 32, 3) := by decide +kernel
theorem dX3_winningMove_72 : decode cX3_winningMove 72 = .ok (.iconst (-1), 1) := by decide +kernel
theorem dX3_winningMove_73 : decode cX3_winningMove 73 = .ok (.ixor, 1) := by decide +kernel
theorem dX3_winningMove_74 : decode cX3_winningMove 74 = .ok (.iand, 1) := by decide +kernel
theorem dX3_winningMove_75 : decode cX3_winningMove 75 = .ok (.ifCond .ne 6, 3) := by decide +kernel
theorem dX3_winningMove_78 : decode cX3_winningMove 78 = .ok (.iload 5, 2) := by decide +kernel
theorem dX3_winningMove_80 : decode cX3_winningMove 80 = .ok (.ireturn, 1) := by decide +kernel
theorem dX3_winningMove_81 : decode cX3_winningMove 81 = .ok (.iinc 5 1, 3) := by decide +kernel
theorem dX3_winningMove_84 : decode cX3_winningMove 84 = .ok (.goto (-74), 3) := by decide +kernel
theorem dX3_winningMove_87 : decode cX3_winningMove 87 = .ok (.iconst (-1), 1) := by decide +kernel
theorem dX3_winningMove_88 : decode cX3_winningMove 88 = .ok (.ireturn, 1) := by decide +kernel
set_option maxRecDepth 20000 in
theorem ggX4_init_X1_init : GoodIn wsX4_init wsX1_init := goodIn_r _ [11, 12, 2, 3, 13, 14, 15, 16, 17, 18, 19, 20, 21, 22, 23, 24, 25, 26] (by decide +kernel) (by decide +kernel)
set_option maxRecDepth 20000 in
theorem gX4_init_X1_init_n11 : GoodIn wsX4_init (wsX1_init) := ggX4_init_X1_init
theorem dX4_init_0 : decode cX4_init 0 = .ok (.aload_n 0, 1) := by decide +kernel
theorem dX4_init_1 : decode cX4_init 1 = .ok (.invokespecial 3, 3) := by decide +kernel
theorem dX4_init_4 : decode cX4_init 4 = .ok (.aload_n 0, 1) := by decide +kernel
theorem dX4_init_5 : decode cX4_init 5 = .ok (.new 9, 3) := by decide +kernel
theorem dX4_init_8 : decode cX4_init 8 = .ok (.dup, 1) := by decide +kernel
theorem dX4_init_9 : decode cX4_init 9 = .ok (.invokespecial 11, 3) := by decide +kernel
theorem dX4_init_12 : decode cX4_init 12 = .ok (.putfield 12, 3) := by decide +kernel
theorem dX4_init_15 : decode cX4_init 15 = .ok (.aload_n 0, 1) := by decide +kernel
theorem dX4_init_16 : decode cX4_init 16 = .ok (.iconst (-1), 1) := by decide +kernel
theorem dX4_init_17 : decode cX4_init 17 = .ok (.putfield 18, 3) := by decide +kernel
theorem dX4_init_20 : decode cX4_init 20 = .ok (.aload_n 0, 1) := by decide +kernel
theorem dX4_init_21 : decode cX4_init 21 = .ok (.aload_n 1, 1) := by decide +kernel
theorem dX4_init_22 : decode cX4_init 22 = .ok (.putfield 22, 3) := by decide +kernel
theorem dX4_init_25 : decode cX4_init 25 = .ok (.return_, 1) := by decide +kernel
set_option maxRecDepth 20000 in
theorem ggX4_read_X1_clear : GoodIn wsX4_read wsX1_clear := goodIn_r _ [18, 19, 20, 21, 22, 23, 167, 168, 169, 170, 171, 172, 173, 174, 175] (by decide +kernel) (by decide +kernel)
set_option maxRecDepth 20000 in
theorem gX4_read_X1_clear : GoodIn wsX4_read (wsV RX4 47 RX1 yX1_clear wsX1_clear) := goodIn_app (goodIn_of _ (by decide +kernel)) ggX4_read_X1_clear
set_option maxRecDepth 20000 in
theorem ggX4_read_X4_advance : GoodIn wsX4_read wsX4_advance := goodIn_r _ [28, 9, 10, 29, 6, 1, 30, 31, 32, 27, 33, 34, 35, 36, 37, 38, 39, 40, 41, 42, 43, 44, 45, 46, 157, 158, 159, 160, 161, 162, 163, 164, 165, 166] (by decide +kernel) (by decide +kernel)
set_option maxRecDepth 20000 in
theorem gX4_read_X4_advance : GoodIn wsX4_read (wsV RX4 50 RX4 yX4_advance wsX4_advance) := goodIn_app (goodIn_of _ (by decide +kernel)) ggX4_read_X4_advance
set_option maxRecDepth 20000 in
theorem ggX4_read_X4_isWord : GoodIn wsX4_read wsX4_isWord := goodIn_r _ [50, 9, 10, 29, 1, 51, 52, 53, 54, 55, 56, 57, 58, 59, 60, 61, 62, 63, 64, 65, 66, 67, 68, 69, 70, 71, 72, 73, 74, 75, 76, 77, 78, 79, 80, 81, 82, 83, 84, 85, 86, 87, 88, 89, 90, 91, 92, 93, 94, 95, 96, 97, 98, 99, 157, 158, 159, 160, 161, 162, 163, 164, 165, 166, 176, 177, 178, 179] (by decide +kernel) (by decide +kernel)
set_option maxRecDepth 20000 in
theorem gX4_read_X4_isWord : GoodIn wsX4_read (wsV RX4 54 RX4 yX4_isWord wsX4_isWord) := goodIn_app (goodIn_of _ (by decide +kernel)) ggX4_read_X4_isWord
set_option maxRecDepth 20000 in
theorem ggX4_read_X4_fail : GoodIn wsX4_read wsX4_fail := goodIn_r _ [103, 7, 29, 8, 157, 158, 159, 160, 161, 162, 163, 164, 165, 166] (by decide +kernel) (by decide +kernel)
set_option maxRecDepth 20000 in
theorem gX4_read_X4_fail : GoodIn wsX4_read (wsV RX4 58 RX4 yX4_fail wsX4_fail) := goodIn_app (goodIn_of _ (by decide +kernel)) ggX4_read_X4_fail
set_option maxRecDepth 20000 in
theorem ggX4_read_X4_readLine : GoodIn wsX4_read wsX4_readLine := goodIn_r _ [107, 47, 48, 49, 27, 50, 9, 10, 29, 1, 51, 52, 53, 54, 55, 56, 57, 58, 59, 60, 61, 62, 63, 64, 65, 66, 67, 68, 69, 70, 71, 72, 73, 74, 75, 76, 77, 78, 79, 80, 81, 82, 83, 84, 85, 86, 87, 88, 89, 90, 91, 92, 93, 94, 95, 96, 97, 98, 99, 108, 109, 110, 111, 6, 7, 24, 25, 26, 28, 30, 31, 32, 33, 34, 35, 36, 37, 38, 39, 40, 41, 42, 43, 44, 45, 46, 100, 101, 102, 103, 8, 112, 113, 114, 115, 12, 13, 116, 117, 118, 17, 119, 19, 120, 20, 121, 122, 123, 124, 125, 126, 127, 128, 129, 130, 131, 132, 133, 134, 135, 136, 137, 138, 139, 140, 141, 21, 142, 143, 144, 145, 146, 147, 148, 149, 150, 151, 11, 157, 158, 159, 160, 161, 162, 163, 164, 165, 166, 176, 177, 178, 179, 167, 168, 169, 170, 171, 172, 173, 174, 175] (by decide +kernel) (by decide +kernel)
set_option maxRecDepth 20000 in
theorem gX4_read_X4_readLine : GoodIn wsX4_read (wsV RX4 62 RX4 yX4_readLine wsX4_readLine) := goodIn_app (goodIn_of _ (by decide +kernel)) ggX4_read_X4_readLine
set_option maxRecDepth 20000 in
theorem ggX4_read_X1_layAt : GoodIn wsX4_read wsX1_layAt := goodIn_r _ [155, 22, 23, 156, 120, 167, 168, 169, 170, 171, 172, 173, 174, 175] (by decide +kernel) (by decide +kernel)
set_option maxRecDepth 20000 in
theorem gX4_read_X1_layAt : GoodIn wsX4_read (wsV RX4 68 RX1 yX1_layAt wsX1_layAt) := goodIn_app (goodIn_of _ (by decide +kernel)) ggX4_read_X1_layAt
theorem dX4_read_0 : decode cX4_read 0 = .ok (.aload_n 0, 1) := by decide +kernel
theorem dX4_read_1 : decode cX4_read 1 = .ok (.iload_n 1, 1) := by decide +kernel
theorem dX4_read_2 : decode cX4_read 2 = .ok (.aload_n 0, 1) := by decide +kernel
theorem dX4_read_3 : decode cX4_read 3 = .ok (.getfield 22, 3) := by decide +kernel
theorem dX4_read_6 : decode cX4_read 6 = .ok (.arraylength, 1) := by decide +kernel
theorem dX4_read_7 : decode cX4_read 7 = .ok (.invokestatic 26, 3) := by decide +kernel
theorem dX4_read_10 : decode cX4_read 10 = .ok (.putfield 32, 3) := by decide +kernel
theorem dX4_read_13 : decode cX4_read 13 = .ok (.aload_n 0, 1) := by decide +kernel
theorem dX4_read_14 : decode cX4_read 14 = .ok (.iconst 0, 1) := by decide +kernel
theorem dX4_read_15 : decode cX4_read 15 = .ok (.putfield 35, 3) := by decide +kernel
theorem dX4_read_18 : decode cX4_read 18 = .ok (.aload_n 0, 1) := by decide +kernel
theorem dX4_read_19 : decode cX4_read 19 = .ok (.iconst (-1), 1) := by decide +kernel
theorem dX4_read_20 : decode cX4_read 20 = .ok (.putfield 18, 3) := by decide +kernel
theorem dX4_read_23 : decode cX4_read 23 = .ok (.aload_n 0, 1) := by decide +kernel
theorem dX4_read_24 : decode cX4_read 24 = .ok (.iconst 0, 1) := by decide +kernel
theorem dX4_read_25 : decode cX4_read 25 = .ok (.putfield 38, 3) := by decide +kernel
theorem dX4_read_28 : decode cX4_read 28 = .ok (.aload_n 0, 1) := by decide +kernel
theorem dX4_read_29 : decode cX4_read 29 = .ok (.iconst 0, 1) := by decide +kernel
theorem dX4_read_30 : decode cX4_read 30 = .ok (.putfield 41, 3) := by decide +kernel
theorem dX4_read_33 : decode cX4_read 33 = .ok (.aload_n 0, 1) := by decide +kernel
theorem dX4_read_34 : decode cX4_read 34 = .ok (.iconst 0, 1) := by decide +kernel
theorem dX4_read_35 : decode cX4_read 35 = .ok (.putfield 44, 3) := by decide +kernel
theorem dX4_read_38 : decode cX4_read 38 = .ok (.aload_n 0, 1) := by decide +kernel
theorem dX4_read_39 : decode cX4_read 39 = .ok (.getfield 12, 3) := by decide +kernel
theorem dX4_read_42 : decode cX4_read 42 = .ok (.invokevirtual 47, 3) := by decide +kernel
theorem dX4_read_45 : decode cX4_read 45 = .ok (.aload_n 0, 1) := by decide +kernel
theorem dX4_read_46 : decode cX4_read 46 = .ok (.invokevirtual 50, 3) := by decide +kernel
theorem dX4_read_49 : decode cX4_read 49 = .ok (.aload_n 0, 1) := by decide +kernel
theorem dX4_read_50 : decode cX4_read 50 = .ok (.ldc 53, 2) := by decide +kernel
theorem dX4_read_52 : decode cX4_read 52 = .ok (.invokevirtual 54, 3) := by decide +kernel
theorem dX4_read_55 : decode cX4_read 55 = .ok (.ifCond .ne 10, 3) := by decide +kernel
theorem dX4_read_58 : decode cX4_read 58 = .ok (.aload_n 0, 1) := by decide +kernel
theorem dX4_read_59 : decode cX4_read 59 = .ok (.iconst 1, 1) := by decide +kernel
theorem dX4_read_60 : decode cX4_read 60 = .ok (.invokevirtual 58, 3) := by decide +kernel
theorem dX4_read_63 : decode cX4_read 63 = .ok (.iconst 0, 1) := by decide +kernel
theorem dX4_read_64 : decode cX4_read 64 = .ok (.ireturn, 1) := by decide +kernel
theorem dX4_read_65 : decode cX4_read 65 = .ok (.aload_n 0, 1) := by decide +kernel
theorem dX4_read_66 : decode cX4_read 66 = .ok (.invokevirtual 50, 3) := by decide +kernel
theorem dX4_read_69 : decode cX4_read 69 = .ok (.iconst 0, 1) := by decide +kernel
theorem dX4_read_70 : decode cX4_read 70 = .ok (.istore_n 2, 1) := by decide +kernel
theorem dX4_read_71 : decode cX4_read 71 = .ok (.iload_n 2, 1) := by decide +kernel
theorem dX4_read_72 : decode cX4_read 72 = .ok (.aload_n 0, 1) := by decide +kernel
theorem dX4_read_73 : decode cX4_read 73 = .ok (.getfield 32, 3) := by decide +kernel
theorem dX4_read_76 : decode cX4_read 76 = .ok (.if_icmp .ge 32, 3) := by decide +kernel
theorem dX4_read_79 : decode cX4_read 79 = .ok (.aload_n 0, 1) := by decide +kernel
theorem dX4_read_80 : decode cX4_read 80 = .ok (.getfield 35, 3) := by decide +kernel
theorem dX4_read_83 : decode cX4_read 83 = .ok (.ifCond .ne 25, 3) := by decide +kernel
theorem dX4_read_86 : decode cX4_read 86 = .ok (.aload_n 0, 1) := by decide +kernel
theorem dX4_read_87 : decode cX4_read 87 = .ok (.getfield 38, 3) := by decide +kernel
theorem dX4_read_90 : decode cX4_read 90 = .ok (.iconst 3, 1) := by decide +kernel
theorem dX4_read_91 : decode cX4_read 91 = .ok (.if_icmp .ne 17, 3) := by decide +kernel
theorem dX4_read_94 : decode cX4_read 94 = .ok (.aload_n 0, 1) := by decide +kernel
theorem dX4_read_95 : decode cX4_read 95 = .ok (.invokevirtual 50, 3) := by decide +kernel
theorem dX4_read_98 : decode cX4_read 98 = .ok (.aload_n 0, 1) := by decide +kernel
theorem dX4_read_99 : decode cX4_read 99 = .ok (.invokevirtual 62, 3) := by decide +kernel
theorem dX4_read_102 : decode cX4_read 102 = .ok (.iinc 2 1, 3) := by decide +kernel
theorem dX4_read_105 : decode cX4_read 105 = .ok (.goto (-34), 3) := by decide +kernel
theorem dX4_read_108 : decode cX4_read 108 = .ok (.aload_n 0, 1) := by decide +kernel
theorem dX4_read_109 : decode cX4_read 109 = .ok (.getfield 38, 3) := by decide +kernel
theorem dX4_read_112 : decode cX4_read 112 = .ok (.ifCond .eq 11, 3) := by decide +kernel
theorem dX4_read_115 : decode cX4_read 115 = .ok (.aload_n 0, 1) := by decide +kernel
theorem dX4_read_116 : decode cX4_read 116 = .ok (.iconst 1, 1) := by decide +kernel
theorem dX4_read_117 : decode cX4_read 117 = .ok (.invokevirtual 58, 3) := by decide +kernel
theorem dX4_read_120 : decode cX4_read 120 = .ok (.goto 19, 3) := by decide +kernel
theorem dX4_read_123 : decode cX4_read 123 = .ok (.aload_n 0, 1) := by decide +kernel
theorem dX4_read_124 : decode cX4_read 124 = .ok (.getfield 12, 3) := by decide +kernel
theorem dX4_read_127 : decode cX4_read 127 = .ok (.getfield 65, 3) := by decide +kernel
theorem dX4_read_130 : decode cX4_read 130 = .ok (.ifCond .ne 9, 3) := by decide +kernel
theorem dX4_read_133 : decode cX4_read 133 = .ok (.aload_n 0, 1) := by decide +kernel
theorem dX4_read_134 : decode cX4_read 134 = .ok (.bipush 6, 2) := by decide +kernel
theorem dX4_read_136 : decode cX4_read 136 = .ok (.invokevirtual 58, 3) := by decide +kernel
theorem dX4_read_139 : decode cX4_read 139 = .ok (.aload_n 0, 1) := by decide +kernel
theorem dX4_read_140 : decode cX4_read 140 = .ok (.getfield 35, 3) := by decide +kernel
theorem dX4_read_143 : decode cX4_read 143 = .ok (.ifCond .ne 14, 3) := by decide +kernel
theorem dX4_read_146 : decode cX4_read 146 = .ok (.aload_n 0, 1) := by decide +kernel
theorem dX4_read_147 : decode cX4_read 147 = .ok (.getfield 12, 3) := by decide +kernel
theorem dX4_read_150 : decode cX4_read 150 = .ok (.aload_n 0, 1) := by decide +kernel
theorem dX4_read_151 : decode cX4_read 151 = .ok (.getfield 44, 3) := by decide +kernel
theorem dX4_read_154 : decode cX4_read 154 = .ok (.invokevirtual 68, 3) := by decide +kernel
theorem dX4_read_157 : decode cX4_read 157 = .ok (.aload_n 0, 1) := by decide +kernel
theorem dX4_read_158 : decode cX4_read 158 = .ok (.getfield 35, 3) := by decide +kernel
theorem dX4_read_161 : decode cX4_read 161 = .ok (.ifCond .ne 7, 3) := by decide +kernel
theorem dX4_read_164 : decode cX4_read 164 = .ok (.iconst 1, 1) := by decide +kernel
theorem dX4_read_165 : decode cX4_read 165 = .ok (.goto 4, 3) := by decide +kernel
theorem dX4_read_168 : decode cX4_read 168 = .ok (.iconst 0, 1) := by decide +kernel
theorem dX4_read_169 : decode cX4_read 169 = .ok (.ireturn, 1) := by decide +kernel
theorem dX4_fail_0 : decode cX4_fail 0 = .ok (.aload_n 0, 1) := by decide +kernel
theorem dX4_fail_1 : decode cX4_fail 1 = .ok (.getfield 35, 3) := by decide +kernel
theorem dX4_fail_4 : decode cX4_fail 4 = .ok (.ifCond .ne 16, 3) := by decide +kernel
theorem dX4_fail_7 : decode cX4_fail 7 = .ok (.aload_n 0, 1) := by decide +kernel
theorem dX4_fail_8 : decode cX4_fail 8 = .ok (.iload_n 1, 1) := by decide +kernel
theorem dX4_fail_9 : decode cX4_fail 9 = .ok (.putfield 35, 3) := by decide +kernel
theorem dX4_fail_12 : decode cX4_fail 12 = .ok (.aload_n 0, 1) := by decide +kernel
theorem dX4_fail_13 : decode cX4_fail 13 = .ok (.aload_n 0, 1) := by decide +kernel
theorem dX4_fail_14 : decode cX4_fail 14 = .ok (.getfield 71, 3) := by decide +kernel
theorem dX4_fail_17 : decode cX4_fail 17 = .ok (.putfield 18, 3) := by decide +kernel
theorem dX4_fail_20 : decode cX4_fail 20 = .ok (.return_, 1) := by decide +kernel
set_option maxRecDepth 20000 in
theorem ggX4_readLine_X4_isWord : GoodIn wsX4_readLine wsX4_isWord := goodIn_r _ [5, 6, 7, 8, 9, 10, 11, 12, 13, 14, 15, 16, 17, 18, 19, 20, 21, 22, 23, 24, 25, 26, 27, 28, 29, 30, 31, 32, 33, 34, 35, 36, 37, 38, 39, 40, 41, 42, 43, 44, 45, 46, 47, 48, 49, 50, 51, 52, 53, 54, 55, 56, 57, 58, 138, 139, 140, 141, 142, 143, 144, 145, 146, 147, 148, 149, 150, 151] (by decide +kernel) (by decide +kernel)
set_option maxRecDepth 20000 in
theorem gX4_readLine_X4_isWord : GoodIn wsX4_readLine (wsV RX4 54 RX4 yX4_isWord wsX4_isWord) := goodIn_app (goodIn_of _ (by decide +kernel)) ggX4_readLine_X4_isWord
set_option maxRecDepth 20000 in
theorem ggX4_readLine_X4_readPlaces : GoodIn wsX4_readLine wsX4_readPlaces := goodIn_r _ [62, 6, 63, 64, 65, 66, 67, 4, 68, 7, 8, 9, 69, 70, 71, 72, 73, 74, 75, 76, 77, 78, 79, 80, 81, 82, 83, 84, 85, 86, 87, 88, 89, 90, 91, 92, 93, 94, 95, 96, 97, 98, 99, 100, 101, 102, 103, 104, 138, 139, 140, 141, 142, 143, 144, 145, 146, 147, 152, 153, 154, 155, 156, 157, 158, 159, 160] (by decide +kernel) (by decide +kernel)
set_option maxRecDepth 20000 in
theorem gX4_readLine_X4_readPlaces : GoodIn wsX4_readLine (wsV RX4 76 RX4 yX4_readPlaces wsX4_readPlaces) := goodIn_app (goodIn_of _ (by decide +kernel)) ggX4_readLine_X4_readPlaces
set_option maxRecDepth 20000 in
theorem ggX4_readLine_X4_readMoves : GoodIn wsX4_readLine wsX4_readMoves := goodIn_r _ [108, 85, 64, 6, 63, 65, 66, 67, 4, 68, 7, 8, 9, 69, 70, 71, 72, 73, 74, 75, 76, 77, 78, 79, 80, 81, 82, 83, 84, 109, 110, 111, 112, 95, 86, 87, 88, 89, 90, 113, 114, 115, 100, 116, 102, 117, 118, 119, 120, 121, 122, 123, 124, 125, 126, 127, 128, 129, 130, 131, 132, 138, 139, 140, 141, 142, 143, 144, 145, 146, 147, 152, 153, 154, 155, 156, 157, 158, 159, 160] (by decide +kernel) (by decide +kernel)
set_option maxRecDepth 20000 in
theorem gX4_readLine_X4_readMoves : GoodIn wsX4_readLine (wsV RX4 83 RX4 yX4_readMoves wsX4_readMoves) := goodIn_app (goodIn_of _ (by decide +kernel)) ggX4_readLine_X4_readMoves
set_option maxRecDepth 20000 in
theorem ggX4_readLine_X4_readToken : GoodIn wsX4_readLine wsX4_readToken := goodIn_r _ [136, 64, 85, 137, 65, 66, 67, 4, 68, 6, 7, 8, 63, 9, 69, 70, 71, 72, 73, 74, 75, 76, 77, 78, 79, 80, 81, 82, 83, 84, 109, 110, 111, 112, 95, 86, 87, 88, 89, 90, 113, 114, 115, 100, 116, 102, 138, 139, 140, 141, 142, 143, 144, 145, 146, 147, 152, 153, 154, 155, 156, 157, 158, 159, 160] (by decide +kernel) (by decide +kernel)
set_option maxRecDepth 20000 in
theorem gX4_readLine_X4_readToken : GoodIn wsX4_readLine (wsV RX4 88 RX4 yX4_readToken wsX4_readToken) := goodIn_app (goodIn_of _ (by decide +kernel)) ggX4_readLine_X4_readToken
set_option maxRecDepth 20000 in
theorem ggX4_readLine_X4_fail : GoodIn wsX4_readLine wsX4_fail := goodIn_r _ [89, 64, 8, 90, 138, 139, 140, 141, 142, 143, 144, 145, 146, 147] (by decide +kernel) (by decide +kernel)
set_option maxRecDepth 20000 in
theorem gX4_readLine_X4_fail : GoodIn wsX4_readLine (wsV RX4 58 RX4 yX4_fail wsX4_fail) := goodIn_app (goodIn_of _ (by decide +kernel)) ggX4_readLine_X4_fail
theorem dX4_readLine_0 : decode cX4_readLine 0 = .ok (.aload_n 0, 1) := by decide +kernel
theorem dX4_readLine_1 : decode cX4_readLine 1 = .ok (.ldc 74, 2) := by decide +kernel
theorem dX4_readLine_3 : decode cX4_readLine 3 = .ok (.invokevirtual 54, 3) := by decide +kernel
theorem dX4_readLine_6 : decode cX4_readLine 6 = .ok (.ifCond .eq 11, 3) := by decide +kernel
theorem dX4_readLine_9 : decode cX4_readLine 9 = .ok (.aload_n 0, 1) := by decide +kernel
theorem dX4_readLine_10 : decode cX4_readLine 10 = .ok (.iconst 0, 1) := by decide +kernel
theorem dX4_readLine_11 : decode cX4_readLine 11 = .ok (.invokevirtual 76, 3) := by decide +kernel
theorem dX4_readLine_14 : decode cX4_readLine 14 = .ok (.goto 57, 3) := by decide +kernel
theorem dX4_readLine_17 : decode cX4_readLine 17 = .ok (.aload_n 0, 1) := by decide +kernel
theorem dX4_readLine_18 : decode cX4_readLine 18 = .ok (.ldc 79, 2) := by decide +kernel
theorem dX4_readLine_20 : decode cX4_readLine 20 = .ok (.invokevirtual 54, 3) := by decide +kernel
theorem dX4_readLine_23 : decode cX4_readLine 23 = .ok (.ifCond .eq 11, 3) := by decide +kernel
theorem dX4_readLine_26 : decode cX4_readLine 26 = .ok (.aload_n 0, 1) := by decide +kernel
theorem dX4_readLine_27 : decode cX4_readLine 27 = .ok (.iconst 1, 1) := by decide +kernel
theorem dX4_readLine_28 : decode cX4_readLine 28 = .ok (.invokevirtual 76, 3) := by decide +kernel
theorem dX4_readLine_31 : decode cX4_readLine 31 = .ok (.goto 40, 3) := by decide +kernel
theorem dX4_readLine_34 : decode cX4_readLine 34 = .ok (.aload_n 0, 1) := by decide +kernel
theorem dX4_readLine_35 : decode cX4_readLine 35 = .ok (.ldc 81, 2) := by decide +kernel
theorem dX4_readLine_37 : decode cX4_readLine 37 = .ok (.invokevirtual 54, 3) := by decide +kernel
theorem dX4_readLine_40 : decode cX4_readLine 40 = .ok (.ifCond .eq 10, 3) := by decide +kernel
theorem dX4_readLine_43 : decode cX4_readLine 43 = .ok (.aload_n 0, 1) := by decide +kernel
theorem dX4_readLine_44 : decode cX4_readLine 44 = .ok (.invokevirtual 83, 3) := by decide +kernel
theorem dX4_readLine_47 : decode cX4_readLine 47 = .ok (.goto 24, 3) := by decide +kernel
theorem dX4_readLine_50 : decode cX4_readLine 50 = .ok (.aload_n 0, 1) := by decide +kernel
theorem dX4_readLine_51 : decode cX4_readLine 51 = .ok (.ldc 86, 2) := by decide +kernel
theorem dX4_readLine_53 : decode cX4_readLine 53 = .ok (.invokevirtual 54, 3) := by decide +kernel
theorem dX4_readLine_56 : decode cX4_readLine 56 = .ok (.ifCond .eq 10, 3) := by decide +kernel
theorem dX4_readLine_59 : decode cX4_readLine 59 = .ok (.aload_n 0, 1) := by decide +kernel
theorem dX4_readLine_60 : decode cX4_readLine 60 = .ok (.invokevirtual 88, 3) := by decide +kernel
theorem dX4_readLine_63 : decode cX4_readLine 63 = .ok (.goto 8, 3) := by decide +kernel
theorem dX4_readLine_66 : decode cX4_readLine 66 = .ok (.aload_n 0, 1) := by decide +kernel
theorem dX4_readLine_67 : decode cX4_readLine 67 = .ok (.iconst 1, 1) := by decide +kernel
theorem dX4_readLine_68 : decode cX4_readLine 68 = .ok (.invokevirtual 58, 3) := by decide +kernel
theorem dX4_readLine_71 : decode cX4_readLine 71 = .ok (.return_, 1) := by decide +kernel
set_option maxRecDepth 20000 in
theorem ggX4_readPlaces_X4_advance : GoodIn wsX4_readPlaces wsX4_advance := goodIn_r _ [8, 1, 9, 10, 2, 11, 12, 13, 14, 7, 15, 16, 17, 18, 19, 20, 21, 22, 23, 24, 25, 26, 27, 28, 48, 49, 50, 51, 52, 53, 54, 55, 56, 57] (by decide +kernel) (by decide +kernel)
set_option maxRecDepth 20000 in
theorem gX4_readPlaces_X4_advance : GoodIn wsX4_readPlaces (wsV RX4 50 RX4 yX4_advance wsX4_advance) := goodIn_app (goodIn_of _ (by decide +kernel)) ggX4_readPlaces_X4_advance
set_option maxRecDepth 20000 in
theorem ggX4_readPlaces_X4_fail : GoodIn wsX4_readPlaces wsX4_fail := goodIn_r _ [32, 3, 10, 33, 48, 49, 50, 51, 52, 53, 54, 55, 56, 57] (by decide +kernel) (by decide +kernel)
set_option maxRecDepth 20000 in
theorem gX4_readPlaces_X4_fail : GoodIn wsX4_readPlaces (wsV RX4 58 RX4 yX4_fail wsX4_fail) := goodIn_app (goodIn_of _ (by decide +kernel)) ggX4_readPlaces_X4_fail
set_option maxRecDepth 20000 in
theorem ggX4_readPlaces_X4_readCall : GoodIn wsX4_readPlaces wsX4_readCall := goodIn_r _ [37, 28, 38, 39, 29, 30, 31, 7, 32, 3, 10, 33, 40, 41, 42, 43, 44, 45, 46, 47, 48, 49, 50, 51, 52, 53, 54, 55, 56, 57, 58, 59, 60, 61, 62, 63, 64, 65, 66] (by decide +kernel) (by decide +kernel)
set_option maxRecDepth 20000 in
theorem gX4_readPlaces_X4_readCall : GoodIn wsX4_readPlaces (wsV RX4 91 RX4 yX4_readCall wsX4_readCall) := goodIn_app (goodIn_of _ (by decide +kernel)) ggX4_readPlaces_X4_readCall
theorem dX4_readPlaces_0 : decode cX4_readPlaces 0 = .ok (.aload_n 0, 1) := by decide +kernel
theorem dX4_readPlaces_1 : decode cX4_readPlaces 1 = .ok (.invokevirtual 50, 3) := by decide +kernel
theorem dX4_readPlaces_4 : decode cX4_readPlaces 4 = .ok (.aload_n 0, 1) := by decide +kernel
theorem dX4_readPlaces_5 : decode cX4_readPlaces 5 = .ok (.getfield 38, 3) := by decide +kernel
theorem dX4_readPlaces_8 : decode cX4_readPlaces 8 = .ok (.iconst 2, 1) := by decide +kernel
theorem dX4_readPlaces_9 : decode cX4_readPlaces 9 = .ok (.if_icmp .eq 8, 3) := by decide +kernel
theorem dX4_readPlaces_12 : decode cX4_readPlaces 12 = .ok (.aload_n 0, 1) := by decide +kernel
theorem dX4_readPlaces_13 : decode cX4_readPlaces 13 = .ok (.iconst 1, 1) := by decide +kernel
theorem dX4_readPlaces_14 : decode cX4_readPlaces 14 = .ok (.invokevirtual 58, 3) := by decide +kernel
theorem dX4_readPlaces_17 : decode cX4_readPlaces 17 = .ok (.iconst 0, 1) := by decide +kernel
theorem dX4_readPlaces_18 : decode cX4_readPlaces 18 = .ok (.istore_n 2, 1) := by decide +kernel
theorem dX4_readPlaces_19 : decode cX4_readPlaces 19 = .ok (.iload_n 2, 1) := by decide +kernel
theorem dX4_readPlaces_20 : decode cX4_readPlaces 20 = .ok (.aload_n 0, 1) := by decide +kernel
theorem dX4_readPlaces_21 : decode cX4_readPlaces 21 = .ok (.getfield 32, 3) := by decide +kernel
theorem dX4_readPlaces_24 : decode cX4_readPlaces 24 = .ok (.if_icmp .ge 33, 3) := by decide +kernel
theorem dX4_readPlaces_27 : decode cX4_readPlaces 27 = .ok (.aload_n 0, 1) := by decide +kernel
theorem dX4_readPlaces_28 : decode cX4_readPlaces 28 = .ok (.getfield 35, 3) := by decide +kernel
theorem dX4_readPlaces_31 : decode cX4_readPlaces 31 = .ok (.ifCond .ne 26, 3) := by decide +kernel
theorem dX4_readPlaces_34 : decode cX4_readPlaces 34 = .ok (.aload_n 0, 1) := by decide +kernel
theorem dX4_readPlaces_35 : decode cX4_readPlaces 35 = .ok (.getfield 38, 3) := by decide +kernel
theorem dX4_readPlaces_38 : decode cX4_readPlaces 38 = .ok (.iconst 2, 1) := by decide +kernel
theorem dX4_readPlaces_39 : decode cX4_readPlaces 39 = .ok (.if_icmp .ne 18, 3) := by decide +kernel
theorem dX4_readPlaces_42 : decode cX4_readPlaces 42 = .ok (.aload_n 0, 1) := by decide +kernel
theorem dX4_readPlaces_43 : decode cX4_readPlaces 43 = .ok (.iload_n 1, 1) := by decide +kernel
theorem dX4_readPlaces_44 : decode cX4_readPlaces 44 = .ok (.invokevirtual 91, 3) := by decide +kernel
theorem dX4_readPlaces_47 : decode cX4_readPlaces 47 = .ok (.aload_n 0, 1) := by decide +kernel
theorem dX4_readPlaces_48 : decode cX4_readPlaces 48 = .ok (.invokevirtual 50, 3) := by decide +kernel
theorem dX4_readPlaces_51 : decode cX4_readPlaces 51 = .ok (.iinc 2 1, 3) := by decide +kernel
theorem dX4_readPlaces_54 : decode cX4_readPlaces 54 = .ok (.goto (-35), 3) := by decide +kernel
theorem dX4_readPlaces_57 : decode cX4_readPlaces 57 = .ok (.return_, 1) := by decide +kernel
set_option maxRecDepth 20000 in
theorem ggX4_readCall_X4_fail : GoodIn wsX4_readCall wsX4_fail := goodIn_r _ [8, 9, 10, 11, 20, 21, 22, 23, 24, 25, 26, 27, 28, 29] (by decide +kernel) (by decide +kernel)
set_option maxRecDepth 20000 in
theorem gX4_readCall_X4_fail : GoodIn wsX4_readCall (wsV RX4 58 RX4 yX4_fail wsX4_fail) := goodIn_app (goodIn_of _ (by decide +kernel)) ggX4_readCall_X4_fail
set_option maxRecDepth 20000 in
theorem ggX4_readCall_X1_appendPlace : GoodIn wsX4_readCall wsX1_appendPlace := goodIn_r _ [16, 17, 18, 19, 30, 31, 32, 33, 34, 35, 36, 37, 38] (by decide +kernel) (by decide +kernel)
set_option maxRecDepth 20000 in
theorem gX4_readCall_X1_appendPlace : GoodIn wsX4_readCall (wsV RX4 97 RX1 yX1_appendPlace wsX1_appendPlace) := goodIn_app (goodIn_of _ (by decide +kernel)) ggX4_readCall_X1_appendPlace
theorem dX4_readCall_0 : decode cX4_readCall 0 = .ok (.aload_n 0, 1) := by decide +kernel
theorem dX4_readCall_1 : decode cX4_readCall 1 = .ok (.getfield 94, 3) := by decide +kernel
theorem dX4_readCall_4 : decode cX4_readCall 4 = .ok (.bipush 10, 2) := by decide +kernel
theorem dX4_readCall_6 : decode cX4_readCall 6 = .ok (.if_icmp .lt 11, 3) := by decide +kernel
theorem dX4_readCall_9 : decode cX4_readCall 9 = .ok (.aload_n 0, 1) := by decide +kernel
theorem dX4_readCall_10 : decode cX4_readCall 10 = .ok (.iconst 2, 1) := by decide +kernel
theorem dX4_readCall_11 : decode cX4_readCall 11 = .ok (.invokevirtual 58, 3) := by decide +kernel
theorem dX4_readCall_14 : decode cX4_readCall 14 = .ok (.goto 35, 3) := by decide +kernel
theorem dX4_readCall_17 : decode cX4_readCall 17 = .ok (.aload_n 0, 1) := by decide +kernel
theorem dX4_readCall_18 : decode cX4_readCall 18 = .ok (.getfield 12, 3) := by decide +kernel
theorem dX4_readCall_21 : decode cX4_readCall 21 = .ok (.getfield 65, 3) := by decide +kernel
theorem dX4_readCall_24 : decode cX4_readCall 24 = .ok (.bipush 20, 2) := by decide +kernel
theorem dX4_readCall_26 : decode cX4_readCall 26 = .ok (.if_icmp .lt 11, 3) := by decide +kernel
theorem dX4_readCall_29 : decode cX4_readCall 29 = .ok (.aload_n 0, 1) := by decide +kernel
theorem dX4_readCall_30 : decode cX4_readCall 30 = .ok (.iconst 5, 1) := by decide +kernel
theorem dX4_readCall_31 : decode cX4_readCall 31 = .ok (.invokevirtual 58, 3) := by decide +kernel
theorem dX4_readCall_34 : decode cX4_readCall 34 = .ok (.goto 15, 3) := by decide +kernel
theorem dX4_readCall_37 : decode cX4_readCall 37 = .ok (.aload_n 0, 1) := by decide +kernel
theorem dX4_readCall_38 : decode cX4_readCall 38 = .ok (.getfield 12, 3) := by decide +kernel
theorem dX4_readCall_41 : decode cX4_readCall 41 = .ok (.iload_n 1, 1) := by decide +kernel
theorem dX4_readCall_42 : decode cX4_readCall 42 = .ok (.aload_n 0, 1) := by decide +kernel
theorem dX4_readCall_43 : decode cX4_readCall 43 = .ok (.getfield 94, 3) := by decide +kernel
theorem dX4_readCall_46 : decode cX4_readCall 46 = .ok (.invokevirtual 97, 3) := by decide +kernel
theorem dX4_readCall_49 : decode cX4_readCall 49 = .ok (.return_, 1) := by decide +kernel
set_option maxRecDepth 20000 in
theorem ggX4_readMoves_X4_advance : GoodIn wsX4_readMoves wsX4_advance := goodIn_r _ [9, 3, 10, 11, 4, 12, 13, 14, 15, 8, 16, 17, 18, 19, 20, 21, 22, 23, 24, 25, 26, 27, 28, 1, 61, 62, 63, 64, 65, 66, 67, 68, 69, 70] (by decide +kernel) (by decide +kernel)
set_option maxRecDepth 20000 in
theorem gX4_readMoves_X4_advance : GoodIn wsX4_readMoves (wsV RX4 50 RX4 yX4_advance wsX4_advance) := goodIn_app (goodIn_of _ (by decide +kernel)) ggX4_readMoves_X4_advance
set_option maxRecDepth 20000 in
theorem ggX4_readMoves_X4_needPlaceNumber : GoodIn wsX4_readMoves wsX4_needPlaceNumber := goodIn_r _ [32, 3, 33, 1, 34, 35, 36, 8, 37, 2, 11, 38, 39, 40, 41, 42, 43, 44, 61, 62, 63, 64, 65, 66, 67, 68, 69, 70, 71, 72, 73, 74, 75, 76, 77, 78, 79] (by decide +kernel) (by decide +kernel)
set_option maxRecDepth 20000 in
theorem gX4_readMoves_X4_needPlaceNumber : GoodIn wsX4_readMoves (wsV RX4 101 RX4 yX4_needPlaceNumber wsX4_needPlaceNumber) := goodIn_app (goodIn_of _ (by decide +kernel)) ggX4_readMoves_X4_needPlaceNumber
set_option maxRecDepth 20000 in
theorem ggX4_readMoves_X4_fail : GoodIn wsX4_readMoves wsX4_fail := goodIn_r _ [37, 2, 11, 38, 61, 62, 63, 64, 65, 66, 67, 68, 69, 70] (by decide +kernel) (by decide +kernel)
set_option maxRecDepth 20000 in
theorem gX4_readMoves_X4_fail : GoodIn wsX4_readMoves (wsV RX4 58 RX4 yX4_fail wsX4_fail) := goodIn_app (goodIn_of _ (by decide +kernel)) ggX4_readMoves_X4_fail
set_option maxRecDepth 20000 in
theorem ggX4_readMoves_X4_readMoveTo : GoodIn wsX4_readMoves wsX4_readMoveTo := goodIn_r _ [48, 33, 1, 49, 39, 40, 41, 42, 43, 44, 34, 35, 36, 8, 37, 2, 11, 38, 50, 51, 52, 53, 54, 55, 56, 57, 58, 59, 60, 61, 62, 63, 64, 65, 66, 67, 68, 69, 70, 71, 72, 73, 74, 75, 76, 77, 78, 79] (by decide +kernel) (by decide +kernel)
set_option maxRecDepth 20000 in
theorem gX4_readMoves_X4_readMoveTo : GoodIn wsX4_readMoves (wsV RX4 104 RX4 yX4_readMoveTo wsX4_readMoveTo) := goodIn_app (goodIn_of _ (by decide +kernel)) ggX4_readMoves_X4_readMoveTo
theorem dX4_readMoves_0 : decode cX4_readMoves 0 = .ok (.aload_n 0, 1) := by decide +kernel
theorem dX4_readMoves_1 : decode cX4_readMoves 1 = .ok (.invokevirtual 50, 3) := by decide +kernel
theorem dX4_readMoves_4 : decode cX4_readMoves 4 = .ok (.aload_n 0, 1) := by decide +kernel
theorem dX4_readMoves_5 : decode cX4_readMoves 5 = .ok (.invokevirtual 101, 3) := by decide +kernel
theorem dX4_readMoves_8 : decode cX4_readMoves 8 = .ok (.aload_n 0, 1) := by decide +kernel
theorem dX4_readMoves_9 : decode cX4_readMoves 9 = .ok (.getfield 94, 3) := by decide +kernel
theorem dX4_readMoves_12 : decode cX4_readMoves 12 = .ok (.istore_n 1, 1) := by decide +kernel
theorem dX4_readMoves_13 : decode cX4_readMoves 13 = .ok (.aload_n 0, 1) := by decide +kernel
theorem dX4_readMoves_14 : decode cX4_readMoves 14 = .ok (.getfield 35, 3) := by decide +kernel
theorem dX4_readMoves_17 : decode cX4_readMoves 17 = .ok (.ifCond .ne 20, 3) := by decide +kernel
theorem dX4_readMoves_20 : decode cX4_readMoves 20 = .ok (.aload_n 0, 1) := by decide +kernel
theorem dX4_readMoves_21 : decode cX4_readMoves 21 = .ok (.invokevirtual 50, 3) := by decide +kernel
theorem dX4_readMoves_24 : decode cX4_readMoves 24 = .ok (.aload_n 0, 1) := by decide +kernel
theorem dX4_readMoves_25 : decode cX4_readMoves 25 = .ok (.getfield 38, 3) := by decide +kernel
theorem dX4_readMoves_28 : decode cX4_readMoves 28 = .ok (.iconst 2, 1) := by decide +kernel
theorem dX4_readMoves_29 : decode cX4_readMoves 29 = .ok (.if_icmp .eq 8, 3) := by decide +kernel
theorem dX4_readMoves_32 : decode cX4_readMoves 32 = .ok (.aload_n 0, 1) := by decide +kernel
theorem dX4_readMoves_33 : decode cX4_readMoves 33 = .ok (.iconst 1, 1) := by decide +kernel
theorem dX4_readMoves_34 : decode cX4_readMoves 34 = .ok (.invokevirtual 58, 3) := by decide +kernel
theorem dX4_readMoves_37 : decode cX4_readMoves 37 = .ok (.iconst 0, 1) := by decide +kernel
theorem dX4_readMoves_38 : decode cX4_readMoves 38 = .ok (.istore_n 2, 1) := by decide +kernel
theorem dX4_readMoves_39 : decode cX4_readMoves 39 = .ok (.iload_n 2, 1) := by decide +kernel
theorem dX4_readMoves_40 : decode cX4_readMoves 40 = .ok (.aload_n 0, 1) := by decide +kernel
theorem dX4_readMoves_41 : decode cX4_readMoves 41 = .ok (.getfield 32, 3) := by decide +kernel
theorem dX4_readMoves_44 : decode cX4_readMoves 44 = .ok (.if_icmp .ge 33, 3) := by decide +kernel
theorem dX4_readMoves_47 : decode cX4_readMoves 47 = .ok (.aload_n 0, 1) := by decide +kernel
theorem dX4_readMoves_48 : decode cX4_readMoves 48 = .ok (.getfield 35, 3) := by decide +kernel
theorem dX4_readMoves_51 : decode cX4_readMoves 51 = .ok (.ifCond .ne 26, 3) := by decide +kernel
theorem dX4_readMoves_54 : decode cX4_readMoves 54 = .ok (.aload_n 0, 1) := by decide +kernel
theorem dX4_readMoves_55 : decode cX4_readMoves 55 = .ok (.getfield 38, 3) := by decide +kernel
theorem dX4_readMoves_58 : decode cX4_readMoves 58 = .ok (.iconst 2, 1) := by decide +kernel
theorem dX4_readMoves_59 : decode cX4_readMoves 59 = .ok (.if_icmp .ne 18, 3) := by decide +kernel
theorem dX4_readMoves_62 : decode cX4_readMoves 62 = .ok (.aload_n 0, 1) := by decide +kernel
theorem dX4_readMoves_63 : decode cX4_readMoves 63 = .ok (.iload_n 1, 1) := by decide +kernel
theorem dX4_readMoves_64 : decode cX4_readMoves 64 = .ok (.invokevirtual 104, 3) := by decide +kernel
theorem dX4_readMoves_67 : decode cX4_readMoves 67 = .ok (.aload_n 0, 1) := by decide +kernel
theorem dX4_readMoves_68 : decode cX4_readMoves 68 = .ok (.invokevirtual 50, 3) := by decide +kernel
theorem dX4_readMoves_71 : decode cX4_readMoves 71 = .ok (.iinc 2 1, 3) := by decide +kernel
theorem dX4_readMoves_74 : decode cX4_readMoves 74 = .ok (.goto (-35), 3) := by decide +kernel
theorem dX4_readMoves_77 : decode cX4_readMoves 77 = .ok (.return_, 1) := by decide +kernel
set_option maxRecDepth 20000 in
theorem ggX4_readMoveTo_X1_hasPlace : GoodIn wsX4_readMoveTo wsX1_hasPlace := goodIn_r _ [8, 9, 39, 40, 41, 42, 43, 44, 45, 46, 47] (by decide +kernel) (by decide +kernel)
set_option maxRecDepth 20000 in
theorem gX4_readMoveTo_X1_hasPlace : GoodIn wsX4_readMoveTo (wsV RX4 107 RX1 yX1_hasPlace wsX1_hasPlace) := goodIn_app (goodIn_of _ (by decide +kernel)) ggX4_readMoveTo_X1_hasPlace
set_option maxRecDepth 20000 in
theorem ggX4_readMoveTo_X4_fail : GoodIn wsX4_readMoveTo wsX4_fail := goodIn_r _ [14, 15, 16, 17, 29, 30, 31, 32, 33, 34, 35, 36, 37, 38] (by decide +kernel) (by decide +kernel)
set_option maxRecDepth 20000 in
theorem gX4_readMoveTo_X4_fail : GoodIn wsX4_readMoveTo (wsV RX4 58 RX4 yX4_fail wsX4_fail) := goodIn_app (goodIn_of _ (by decide +kernel)) ggX4_readMoveTo_X4_fail
set_option maxRecDepth 20000 in
theorem ggX4_readMoveTo_X1_findMove : GoodIn wsX4_readMoveTo wsX1_findMove := goodIn_r _ [21, 22, 23, 24, 39, 40, 41, 42, 43, 44, 45, 46, 47] (by decide +kernel) (by decide +kernel)
set_option maxRecDepth 20000 in
theorem gX4_readMoveTo_X1_findMove : GoodIn wsX4_readMoveTo (wsV RX4 111 RX1 yX1_findMove wsX1_findMove) := goodIn_app (goodIn_of _ (by decide +kernel)) ggX4_readMoveTo_X1_findMove
set_option maxRecDepth 20000 in
theorem ggX4_readMoveTo_X1_appendMove : GoodIn wsX4_readMoveTo wsX1_appendMove := goodIn_r _ [28, 22, 23, 24, 39, 40, 41, 42, 43, 44, 45, 46, 47] (by decide +kernel) (by decide +kernel)
set_option maxRecDepth 20000 in
theorem gX4_readMoveTo_X1_appendMove : GoodIn wsX4_readMoveTo (wsV RX4 117 RX1 yX1_appendMove wsX1_appendMove) := goodIn_app (goodIn_of _ (by decide +kernel)) ggX4_readMoveTo_X1_appendMove
theorem dX4_readMoveTo_0 : decode cX4_readMoveTo 0 = .ok (.aload_n 0, 1) := by decide +kernel
theorem dX4_readMoveTo_1 : decode cX4_readMoveTo 1 = .ok (.getfield 12, 3) := by decide +kernel
theorem dX4_readMoveTo_4 : decode cX4_readMoveTo 4 = .ok (.aload_n 0, 1) := by decide +kernel
theorem dX4_readMoveTo_5 : decode cX4_readMoveTo 5 = .ok (.getfield 94, 3) := by decide +kernel
theorem dX4_readMoveTo_8 : decode cX4_readMoveTo 8 = .ok (.invokevirtual 107, 3) := by decide +kernel
theorem dX4_readMoveTo_11 : decode cX4_readMoveTo 11 = .ok (.ifCond .ne 11, 3) := by decide +kernel
theorem dX4_readMoveTo_14 : decode cX4_readMoveTo 14 = .ok (.aload_n 0, 1) := by decide +kernel
theorem dX4_readMoveTo_15 : decode cX4_readMoveTo 15 = .ok (.iconst 3, 1) := by decide +kernel
theorem dX4_readMoveTo_16 : decode cX4_readMoveTo 16 = .ok (.invokevirtual 58, 3) := by decide +kernel
theorem dX4_readMoveTo_19 : decode cX4_readMoveTo 19 = .ok (.goto 59, 3) := by decide +kernel
theorem dX4_readMoveTo_22 : decode cX4_readMoveTo 22 = .ok (.aload_n 0, 1) := by decide +kernel
theorem dX4_readMoveTo_23 : decode cX4_readMoveTo 23 = .ok (.getfield 12, 3) := by decide +kernel
theorem dX4_readMoveTo_26 : decode cX4_readMoveTo 26 = .ok (.iload_n 1, 1) := by decide +kernel
theorem dX4_readMoveTo_27 : decode cX4_readMoveTo 27 = .ok (.aload_n 0, 1) := by decide +kernel
theorem dX4_readMoveTo_28 : decode cX4_readMoveTo 28 = .ok (.getfield 94, 3) := by decide +kernel
theorem dX4_readMoveTo_31 : decode cX4_readMoveTo 31 = .ok (.invokevirtual 111, 3) := by decide +kernel
theorem dX4_readMoveTo_34 : decode cX4_readMoveTo 34 = .ok (.iconst (-1), 1) := by decide +kernel
theorem dX4_readMoveTo_35 : decode cX4_readMoveTo 35 = .ok (.if_icmp .eq 11, 3) := by decide +kernel
theorem dX4_readMoveTo_38 : decode cX4_readMoveTo 38 = .ok (.aload_n 0, 1) := by decide +kernel
theorem dX4_readMoveTo_39 : decode cX4_readMoveTo 39 = .ok (.iconst 4, 1) := by decide +kernel
theorem dX4_readMoveTo_40 : decode cX4_readMoveTo 40 = .ok (.invokevirtual 58, 3) := by decide +kernel
theorem dX4_readMoveTo_43 : decode cX4_readMoveTo 43 = .ok (.goto 35, 3) := by decide +kernel
theorem dX4_readMoveTo_46 : decode cX4_readMoveTo 46 = .ok (.aload_n 0, 1) := by decide +kernel
theorem dX4_readMoveTo_47 : decode cX4_readMoveTo 47 = .ok (.getfield 12, 3) := by decide +kernel
theorem dX4_readMoveTo_50 : decode cX4_readMoveTo 50 = .ok (.getfield 114, 3) := by decide +kernel
theorem dX4_readMoveTo_53 : decode cX4_readMoveTo 53 = .ok (.bipush 60, 2) := by decide +kernel
theorem dX4_readMoveTo_55 : decode cX4_readMoveTo 55 = .ok (.if_icmp .lt 11, 3) := by decide +kernel
theorem dX4_readMoveTo_58 : decode cX4_readMoveTo 58 = .ok (.aload_n 0, 1) := by decide +kernel
theorem dX4_readMoveTo_59 : decode cX4_readMoveTo 59 = .ok (.iconst 5, 1) := by decide +kernel
theorem dX4_readMoveTo_60 : decode cX4_readMoveTo 60 = .ok (.invokevirtual 58, 3) := by decide +kernel
theorem dX4_readMoveTo_63 : decode cX4_readMoveTo 63 = .ok (.goto 15, 3) := by decide +kernel
theorem dX4_readMoveTo_66 : decode cX4_readMoveTo 66 = .ok (.aload_n 0, 1) := by decide +kernel
theorem dX4_readMoveTo_67 : decode cX4_readMoveTo 67 = .ok (.getfield 12, 3) := by decide +kernel
theorem dX4_readMoveTo_70 : decode cX4_readMoveTo 70 = .ok (.iload_n 1, 1) := by decide +kernel
theorem dX4_readMoveTo_71 : decode cX4_readMoveTo 71 = .ok (.aload_n 0, 1) := by decide +kernel
theorem dX4_readMoveTo_72 : decode cX4_readMoveTo 72 = .ok (.getfield 94, 3) := by decide +kernel
theorem dX4_readMoveTo_75 : decode cX4_readMoveTo 75 = .ok (.invokevirtual 117, 3) := by decide +kernel
theorem dX4_readMoveTo_78 : decode cX4_readMoveTo 78 = .ok (.return_, 1) := by decide +kernel
set_option maxRecDepth 20000 in
theorem ggX4_readToken_X4_advance : GoodIn wsX4_readToken wsX4_advance := goodIn_r _ [8, 9, 10, 11, 12, 13, 14, 15, 16, 7, 17, 18, 19, 20, 21, 22, 23, 24, 25, 26, 27, 28, 29, 2, 46, 47, 48, 49, 50, 51, 52, 53, 54, 55] (by decide +kernel) (by decide +kernel)
set_option maxRecDepth 20000 in
theorem gX4_readToken_X4_advance : GoodIn wsX4_readToken (wsV RX4 50 RX4 yX4_advance wsX4_advance) := goodIn_app (goodIn_of _ (by decide +kernel)) ggX4_readToken_X4_advance
set_option maxRecDepth 20000 in
theorem ggX4_readToken_X4_needPlaceNumber : GoodIn wsX4_readToken wsX4_needPlaceNumber := goodIn_r _ [33, 9, 34, 2, 35, 36, 37, 7, 38, 1, 11, 39, 40, 41, 42, 43, 44, 45, 46, 47, 48, 49, 50, 51, 52, 53, 54, 55, 56, 57, 58, 59, 60, 61, 62, 63, 64] (by decide +kernel) (by decide +kernel)
set_option maxRecDepth 20000 in
theorem gX4_readToken_X4_needPlaceNumber : GoodIn wsX4_readToken (wsV RX4 101 RX4 yX4_needPlaceNumber wsX4_needPlaceNumber) := goodIn_app (goodIn_of _ (by decide +kernel)) ggX4_readToken_X4_needPlaceNumber
theorem dX4_readToken_0 : decode cX4_readToken 0 = .ok (.aload_n 0, 1) := by decide +kernel
theorem dX4_readToken_1 : decode cX4_readToken 1 = .ok (.invokevirtual 50, 3) := by decide +kernel
theorem dX4_readToken_4 : decode cX4_readToken 4 = .ok (.aload_n 0, 1) := by decide +kernel
theorem dX4_readToken_5 : decode cX4_readToken 5 = .ok (.invokevirtual 101, 3) := by decide +kernel
theorem dX4_readToken_8 : decode cX4_readToken 8 = .ok (.aload_n 0, 1) := by decide +kernel
theorem dX4_readToken_9 : decode cX4_readToken 9 = .ok (.getfield 35, 3) := by decide +kernel
theorem dX4_readToken_12 : decode cX4_readToken 12 = .ok (.ifCond .ne 15, 3) := by decide +kernel
theorem dX4_readToken_15 : decode cX4_readToken 15 = .ok (.aload_n 0, 1) := by decide +kernel
theorem dX4_readToken_16 : decode cX4_readToken 16 = .ok (.aload_n 0, 1) := by decide +kernel
theorem dX4_readToken_17 : decode cX4_readToken 17 = .ok (.getfield 94, 3) := by decide +kernel
theorem dX4_readToken_20 : decode cX4_readToken 20 = .ok (.putfield 44, 3) := by decide +kernel
theorem dX4_readToken_23 : decode cX4_readToken 23 = .ok (.aload_n 0, 1) := by decide +kernel
theorem dX4_readToken_24 : decode cX4_readToken 24 = .ok (.invokevirtual 50, 3) := by decide +kernel
theorem dX4_readToken_27 : decode cX4_readToken 27 = .ok (.return_, 1) := by decide +kernel
set_option maxRecDepth 20000 in
theorem ggX4_needPlaceNumber_X4_fail : GoodIn wsX4_needPlaceNumber wsX4_fail := goodIn_r _ [8, 9, 10, 11, 18, 19, 20, 21, 22, 23, 24, 25, 26, 27] (by decide +kernel) (by decide +kernel)
set_option maxRecDepth 20000 in
theorem gX4_needPlaceNumber_X4_fail : GoodIn wsX4_needPlaceNumber (wsV RX4 58 RX4 yX4_fail wsX4_fail) := goodIn_app (goodIn_of _ (by decide +kernel)) ggX4_needPlaceNumber_X4_fail
set_option maxRecDepth 20000 in
theorem ggX4_needPlaceNumber_X1_hasPlace : GoodIn wsX4_needPlaceNumber wsX1_hasPlace := goodIn_r _ [16, 17, 28, 29, 30, 31, 32, 33, 34, 35, 36] (by decide +kernel) (by decide +kernel)
set_option maxRecDepth 20000 in
theorem gX4_needPlaceNumber_X1_hasPlace : GoodIn wsX4_needPlaceNumber (wsV RX4 107 RX1 yX1_hasPlace wsX1_hasPlace) := goodIn_app (goodIn_of _ (by decide +kernel)) ggX4_needPlaceNumber_X1_hasPlace
theorem dX4_needPlaceNumber_0 : decode cX4_needPlaceNumber 0 = .ok (.aload_n 0, 1) := by decide +kernel
theorem dX4_needPlaceNumber_1 : decode cX4_needPlaceNumber 1 = .ok (.getfield 38, 3) := by decide +kernel
theorem dX4_needPlaceNumber_4 : decode cX4_needPlaceNumber 4 = .ok (.iconst 2, 1) := by decide +kernel
theorem dX4_needPlaceNumber_5 : decode cX4_needPlaceNumber 5 = .ok (.if_icmp .eq 11, 3) := by decide +kernel
theorem dX4_needPlaceNumber_8 : decode cX4_needPlaceNumber 8 = .ok (.aload_n 0, 1) := by decide +kernel
theorem dX4_needPlaceNumber_9 : decode cX4_needPlaceNumber 9 = .ok (.iconst 1, 1) := by decide +kernel
theorem dX4_needPlaceNumber_10 : decode cX4_needPlaceNumber 10 = .ok (.invokevirtual 58, 3) := by decide +kernel
theorem dX4_needPlaceNumber_13 : decode cX4_needPlaceNumber 13 = .ok (.goto 22, 3) := by decide +kernel
theorem dX4_needPlaceNumber_16 : decode cX4_needPlaceNumber 16 = .ok (.aload_n 0, 1) := by decide +kernel
theorem dX4_needPlaceNumber_17 : decode cX4_needPlaceNumber 17 = .ok (.getfield 12, 3) := by decide +kernel
theorem dX4_needPlaceNumber_20 : decode cX4_needPlaceNumber 20 = .ok (.aload_n 0, 1) := by decide +kernel
theorem dX4_needPlaceNumber_21 : decode cX4_needPlaceNumber 21 = .ok (.getfield 94, 3) := by decide +kernel
theorem dX4_needPlaceNumber_24 : decode cX4_needPlaceNumber 24 = .ok (.invokevirtual 107, 3) := by decide +kernel
theorem dX4_needPlaceNumber_27 : decode cX4_needPlaceNumber 27 = .ok (.ifCond .ne 8, 3) := by decide +kernel
theorem dX4_needPlaceNumber_30 : decode cX4_needPlaceNumber 30 = .ok (.aload_n 0, 1) := by decide +kernel
theorem dX4_needPlaceNumber_31 : decode cX4_needPlaceNumber 31 = .ok (.iconst 3, 1) := by decide +kernel
theorem dX4_needPlaceNumber_32 : decode cX4_needPlaceNumber 32 = .ok (.invokevirtual 58, 3) := by decide +kernel
theorem dX4_needPlaceNumber_35 : decode cX4_needPlaceNumber 35 = .ok (.return_, 1) := by decide +kernel
set_option maxRecDepth 20000 in
theorem ggX4_advance_X4_blanksEnd : GoodIn wsX4_advance wsX4_blanksEnd := goodIn_r _ [10, 4, 5, 24, 25, 26, 27, 28, 29, 30, 31, 32, 33] (by decide +kernel) (by decide +kernel)
set_option maxRecDepth 20000 in
theorem gX4_advance_X4_blanksEnd : GoodIn wsX4_advance (wsV RX4 120 RX4 yX4_blanksEnd wsX4_blanksEnd) := goodIn_app (goodIn_of _ (by decide +kernel)) ggX4_advance_X4_blanksEnd
set_option maxRecDepth 20000 in
theorem ggX4_advance_X4_takeRun : GoodIn wsX4_advance wsX4_takeRun := goodIn_r _ [14, 2, 3, 1, 15, 16, 17, 9, 18, 4, 5, 19, 20, 21, 22, 23, 24, 25, 26, 27, 28, 29, 30, 31, 32, 33] (by decide +kernel) (by decide +kernel)
set_option maxRecDepth 20000 in
theorem gX4_advance_X4_takeRun : GoodIn wsX4_advance (wsV RX4 124 RX4 yX4_takeRun wsX4_takeRun) := goodIn_app (goodIn_of _ (by decide +kernel)) ggX4_advance_X4_takeRun
theorem dX4_advance_0 : decode cX4_advance 0 = .ok (.aload_n 0, 1) := by decide +kernel
theorem dX4_advance_1 : decode cX4_advance 1 = .ok (.getfield 38, 3) := by decide +kernel
theorem dX4_advance_4 : decode cX4_advance 4 = .ok (.iconst 1, 1) := by decide +kernel
theorem dX4_advance_5 : decode cX4_advance 5 = .ok (.if_icmp .eq 11, 3) := by decide +kernel
theorem dX4_advance_8 : decode cX4_advance 8 = .ok (.aload_n 0, 1) := by decide +kernel
theorem dX4_advance_9 : decode cX4_advance 9 = .ok (.getfield 38, 3) := by decide +kernel
theorem dX4_advance_12 : decode cX4_advance 12 = .ok (.iconst 2, 1) := by decide +kernel
theorem dX4_advance_13 : decode cX4_advance 13 = .ok (.if_icmp .ne 7, 3) := by decide +kernel
theorem dX4_advance_16 : decode cX4_advance 16 = .ok (.iconst 1, 1) := by decide +kernel
theorem dX4_advance_17 : decode cX4_advance 17 = .ok (.goto 4, 3) := by decide +kernel
theorem dX4_advance_20 : decode cX4_advance 20 = .ok (.iconst 0, 1) := by decide +kernel
theorem dX4_advance_21 : decode cX4_advance 21 = .ok (.istore_n 1, 1) := by decide +kernel
theorem dX4_advance_22 : decode cX4_advance 22 = .ok (.aload_n 0, 1) := by decide +kernel
theorem dX4_advance_23 : decode cX4_advance 23 = .ok (.aload_n 0, 1) := by decide +kernel
theorem dX4_advance_24 : decode cX4_advance 24 = .ok (.aload_n 0, 1) := by decide +kernel
theorem dX4_advance_25 : decode cX4_advance 25 = .ok (.getfield 41, 3) := by decide +kernel
theorem dX4_advance_28 : decode cX4_advance 28 = .ok (.invokevirtual 120, 3) := by decide +kernel
theorem dX4_advance_31 : decode cX4_advance 31 = .ok (.putfield 71, 3) := by decide +kernel
theorem dX4_advance_34 : decode cX4_advance 34 = .ok (.aload_n 0, 1) := by decide +kernel
theorem dX4_advance_35 : decode cX4_advance 35 = .ok (.getfield 71, 3) := by decide +kernel
theorem dX4_advance_38 : decode cX4_advance 38 = .ok (.aload_n 0, 1) := by decide +kernel
theorem dX4_advance_39 : decode cX4_advance 39 = .ok (.getfield 41, 3) := by decide +kernel
theorem dX4_advance_42 : decode cX4_advance 42 = .ok (.if_icmp .le 7, 3) := by decide +kernel
theorem dX4_advance_45 : decode cX4_advance 45 = .ok (.iconst 1, 1) := by decide +kernel
theorem dX4_advance_46 : decode cX4_advance 46 = .ok (.goto 4, 3) := by decide +kernel
theorem dX4_advance_49 : decode cX4_advance 49 = .ok (.iconst 0, 1) := by decide +kernel
theorem dX4_advance_50 : decode cX4_advance 50 = .ok (.istore_n 2, 1) := by decide +kernel
theorem dX4_advance_51 : decode cX4_advance 51 = .ok (.aload_n 0, 1) := by decide +kernel
theorem dX4_advance_52 : decode cX4_advance 52 = .ok (.getfield 71, 3) := by decide +kernel
theorem dX4_advance_55 : decode cX4_advance 55 = .ok (.aload_n 0, 1) := by decide +kernel
theorem dX4_advance_56 : decode cX4_advance 56 = .ok (.getfield 32, 3) := by decide +kernel
theorem dX4_advance_59 : decode cX4_advance 59 = .ok (.if_icmp .lt 19, 3) := by decide +kernel
theorem dX4_advance_62 : decode cX4_advance 62 = .ok (.aload_n 0, 1) := by decide +kernel
theorem dX4_advance_63 : decode cX4_advance 63 = .ok (.iconst 0, 1) := by decide +kernel
theorem dX4_advance_64 : decode cX4_advance 64 = .ok (.putfield 38, 3) := by decide +kernel
theorem dX4_advance_67 : decode cX4_advance 67 = .ok (.aload_n 0, 1) := by decide +kernel
theorem dX4_advance_68 : decode cX4_advance 68 = .ok (.aload_n 0, 1) := by decide +kernel
theorem dX4_advance_69 : decode cX4_advance 69 = .ok (.getfield 71, 3) := by decide +kernel
theorem dX4_advance_72 : decode cX4_advance 72 = .ok (.putfield 41, 3) := by decide +kernel
theorem dX4_advance_75 : decode cX4_advance 75 = .ok (.goto 52, 3) := by decide +kernel
theorem dX4_advance_78 : decode cX4_advance 78 = .ok (.aload_n 0, 1) := by decide +kernel
theorem dX4_advance_79 : decode cX4_advance 79 = .ok (.getfield 22, 3) := by decide +kernel
theorem dX4_advance_82 : decode cX4_advance 82 = .ok (.aload_n 0, 1) := by decide +kernel
theorem dX4_advance_83 : decode cX4_advance 83 = .ok (.getfield 71, 3) := by decide +kernel
theorem dX4_advance_86 : decode cX4_advance 86 = .ok (.iaload, 1) := by decide +kernel
theorem dX4_advance_87 : decode cX4_advance 87 = .ok (.bipush 59, 2) := by decide +kernel
theorem dX4_advance_89 : decode cX4_advance 89 = .ok (.if_icmp .ne 21, 3) := by decide +kernel
theorem dX4_advance_92 : decode cX4_advance 92 = .ok (.aload_n 0, 1) := by decide +kernel
theorem dX4_advance_93 : decode cX4_advance 93 = .ok (.iconst 3, 1) := by decide +kernel
theorem dX4_advance_94 : decode cX4_advance 94 = .ok (.putfield 38, 3) := by decide +kernel
theorem dX4_advance_97 : decode cX4_advance 97 = .ok (.aload_n 0, 1) := by decide +kernel
theorem dX4_advance_98 : decode cX4_advance 98 = .ok (.aload_n 0, 1) := by decide +kernel
theorem dX4_advance_99 : decode cX4_advance 99 = .ok (.getfield 71, 3) := by decide +kernel
theorem dX4_advance_102 : decode cX4_advance 102 = .ok (.iconst 1, 1) := by decide +kernel
theorem dX4_advance_103 : decode cX4_advance 103 = .ok (.iadd, 1) := by decide +kernel
theorem dX4_advance_104 : decode cX4_advance 104 = .ok (.putfield 41, 3) := by decide +kernel
theorem dX4_advance_107 : decode cX4_advance 107 = .ok (.goto 20, 3) := by decide +kernel
theorem dX4_advance_110 : decode cX4_advance 110 = .ok (.aload_n 0, 1) := by decide +kernel
theorem dX4_advance_111 : decode cX4_advance 111 = .ok (.invokevirtual 124, 3) := by decide +kernel
theorem dX4_advance_114 : decode cX4_advance 114 = .ok (.iload_n 1, 1) := by decide +kernel
theorem dX4_advance_115 : decode cX4_advance 115 = .ok (.ifCond .eq 12, 3) := by decide +kernel
theorem dX4_advance_118 : decode cX4_advance 118 = .ok (.iload_n 2, 1) := by decide +kernel
theorem dX4_advance_119 : decode cX4_advance 119 = .ok (.ifCond .ne 8, 3) := by decide +kernel
theorem dX4_advance_122 : decode cX4_advance 122 = .ok (.aload_n 0, 1) := by decide +kernel
theorem dX4_advance_123 : decode cX4_advance 123 = .ok (.iconst 4, 1) := by decide +kernel
theorem dX4_advance_124 : decode cX4_advance 124 = .ok (.putfield 38, 3) := by decide +kernel
theorem dX4_advance_127 : decode cX4_advance 127 = .ok (.return_, 1) := by decide +kernel
set_option maxRecDepth 20000 in
theorem ggX4_takeRun_X4_runEnd : GoodIn wsX4_takeRun wsX4_runEnd := goodIn_r _ [8, 2, 9, 10, 16, 17, 18, 19, 20, 21, 22, 23, 24, 25] (by decide +kernel) (by decide +kernel)
set_option maxRecDepth 20000 in
theorem gX4_takeRun_X4_runEnd : GoodIn wsX4_takeRun (wsV RX4 127 RX4 yX4_runEnd wsX4_runEnd) := goodIn_app (goodIn_of _ (by decide +kernel)) ggX4_takeRun_X4_runEnd
set_option maxRecDepth 20000 in
theorem ggX4_takeRun_X4_takeValue : GoodIn wsX4_takeRun wsX4_takeValue := goodIn_r _ [14, 15, 2, 1, 10, 16, 17, 18, 19, 20, 21, 22, 23, 24, 25] (by decide +kernel) (by decide +kernel)
set_option maxRecDepth 20000 in
theorem gX4_takeRun_X4_takeValue : GoodIn wsX4_takeRun (wsV RX4 131 RX4 yX4_takeValue wsX4_takeValue) := goodIn_app (goodIn_of _ (by decide +kernel)) ggX4_takeRun_X4_takeValue
theorem dX4_takeRun_0 : decode cX4_takeRun 0 = .ok (.aload_n 0, 1) := by decide +kernel
theorem dX4_takeRun_1 : decode cX4_takeRun 1 = .ok (.aload_n 0, 1) := by decide +kernel
theorem dX4_takeRun_2 : decode cX4_takeRun 2 = .ok (.bipush 97, 2) := by decide +kernel
theorem dX4_takeRun_4 : decode cX4_takeRun 4 = .ok (.bipush 122, 2) := by decide +kernel
theorem dX4_takeRun_6 : decode cX4_takeRun 6 = .ok (.invokevirtual 127, 3) := by decide +kernel
theorem dX4_takeRun_9 : decode cX4_takeRun 9 = .ok (.putfield 41, 3) := by decide +kernel
theorem dX4_takeRun_12 : decode cX4_takeRun 12 = .ok (.aload_n 0, 1) := by decide +kernel
theorem dX4_takeRun_13 : decode cX4_takeRun 13 = .ok (.getfield 41, 3) := by decide +kernel
theorem dX4_takeRun_16 : decode cX4_takeRun 16 = .ok (.aload_n 0, 1) := by decide +kernel
theorem dX4_takeRun_17 : decode cX4_takeRun 17 = .ok (.getfield 71, 3) := by decide +kernel
theorem dX4_takeRun_20 : decode cX4_takeRun 20 = .ok (.if_icmp .le 9, 3) := by decide +kernel
theorem dX4_takeRun_23 : decode cX4_takeRun 23 = .ok (.aload_n 0, 1) := by decide +kernel
theorem dX4_takeRun_24 : decode cX4_takeRun 24 = .ok (.iconst 1, 1) := by decide +kernel
theorem dX4_takeRun_25 : decode cX4_takeRun 25 = .ok (.putfield 38, 3) := by decide +kernel
theorem dX4_takeRun_28 : decode cX4_takeRun 28 = .ok (.return_, 1) := by decide +kernel
theorem dX4_takeRun_29 : decode cX4_takeRun 29 = .ok (.aload_n 0, 1) := by decide +kernel
theorem dX4_takeRun_30 : decode cX4_takeRun 30 = .ok (.aload_n 0, 1) := by decide +kernel
theorem dX4_takeRun_31 : decode cX4_takeRun 31 = .ok (.bipush 48, 2) := by decide +kernel
theorem dX4_takeRun_33 : decode cX4_takeRun 33 = .ok (.bipush 57, 2) := by decide +kernel
theorem dX4_takeRun_35 : decode cX4_takeRun 35 = .ok (.invokevirtual 127, 3) := by decide +kernel
theorem dX4_takeRun_38 : decode cX4_takeRun 38 = .ok (.putfield 41, 3) := by decide +kernel
theorem dX4_takeRun_41 : decode cX4_takeRun 41 = .ok (.aload_n 0, 1) := by decide +kernel
theorem dX4_takeRun_42 : decode cX4_takeRun 42 = .ok (.getfield 41, 3) := by decide +kernel
theorem dX4_takeRun_45 : decode cX4_takeRun 45 = .ok (.aload_n 0, 1) := by decide +kernel
theorem dX4_takeRun_46 : decode cX4_takeRun 46 = .ok (.getfield 71, 3) := by decide +kernel
theorem dX4_takeRun_49 : decode cX4_takeRun 49 = .ok (.if_icmp .le 26, 3) := by decide +kernel
theorem dX4_takeRun_52 : decode cX4_takeRun 52 = .ok (.aload_n 0, 1) := by decide +kernel
theorem dX4_takeRun_53 : decode cX4_takeRun 53 = .ok (.getfield 41, 3) := by decide +kernel
theorem dX4_takeRun_56 : decode cX4_takeRun 56 = .ok (.aload_n 0, 1) := by decide +kernel
theorem dX4_takeRun_57 : decode cX4_takeRun 57 = .ok (.getfield 71, 3) := by decide +kernel
theorem dX4_takeRun_60 : decode cX4_takeRun 60 = .ok (.isub, 1) := by decide +kernel
theorem dX4_takeRun_61 : decode cX4_takeRun 61 = .ok (.iconst 3, 1) := by decide +kernel
theorem dX4_takeRun_62 : decode cX4_takeRun 62 = .ok (.if_icmp .gt 13, 3) := by decide +kernel
theorem dX4_takeRun_65 : decode cX4_takeRun 65 = .ok (.aload_n 0, 1) := by decide +kernel
theorem dX4_takeRun_66 : decode cX4_takeRun 66 = .ok (.iconst 2, 1) := by decide +kernel
theorem dX4_takeRun_67 : decode cX4_takeRun 67 = .ok (.putfield 38, 3) := by decide +kernel
theorem dX4_takeRun_70 : decode cX4_takeRun 70 = .ok (.aload_n 0, 1) := by decide +kernel
theorem dX4_takeRun_71 : decode cX4_takeRun 71 = .ok (.invokevirtual 131, 3) := by decide +kernel
theorem dX4_takeRun_74 : decode cX4_takeRun 74 = .ok (.return_, 1) := by decide +kernel
theorem dX4_takeRun_75 : decode cX4_takeRun 75 = .ok (.aload_n 0, 1) := by decide +kernel
theorem dX4_takeRun_76 : decode cX4_takeRun 76 = .ok (.iconst 4, 1) := by decide +kernel
theorem dX4_takeRun_77 : decode cX4_takeRun 77 = .ok (.putfield 38, 3) := by decide +kernel
theorem dX4_takeRun_80 : decode cX4_takeRun 80 = .ok (.return_, 1) := by decide +kernel
theorem dX4_blanksEnd_0 : decode cX4_blanksEnd 0 = .ok (.iload_n 1, 1) := by decide +kernel
theorem dX4_blanksEnd_1 : decode cX4_blanksEnd 1 = .ok (.istore_n 2, 1) := by decide +kernel
theorem dX4_blanksEnd_2 : decode cX4_blanksEnd 2 = .ok (.iload_n 2, 1) := by decide +kernel
theorem dX4_blanksEnd_3 : decode cX4_blanksEnd 3 = .ok (.aload_n 0, 1) := by decide +kernel
theorem dX4_blanksEnd_4 : decode cX4_blanksEnd 4 = .ok (.getfield 32, 3) := by decide +kernel
theorem dX4_blanksEnd_7 : decode cX4_blanksEnd 7 = .ok (.if_icmp .ge 31, 3) := by decide +kernel
theorem dX4_blanksEnd_10 : decode cX4_blanksEnd 10 = .ok (.aload_n 0, 1) := by decide +kernel
theorem dX4_blanksEnd_11 : decode cX4_blanksEnd 11 = .ok (.getfield 22, 3) := by decide +kernel
theorem dX4_blanksEnd_14 : decode cX4_blanksEnd 14 = .ok (.iload_n 2, 1) := by decide +kernel
theorem dX4_blanksEnd_15 : decode cX4_blanksEnd 15 = .ok (.iaload, 1) := by decide +kernel
theorem dX4_blanksEnd_16 : decode cX4_blanksEnd 16 = .ok (.bipush 32, 2) := by decide +kernel
theorem dX4_blanksEnd_18 : decode cX4_blanksEnd 18 = .ok (.if_icmp .eq 14, 3) := by decide +kernel
theorem dX4_blanksEnd_21 : decode cX4_blanksEnd 21 = .ok (.aload_n 0, 1) := by decide +kernel
theorem dX4_blanksEnd_22 : decode cX4_blanksEnd 22 = .ok (.getfield 22, 3) := by decide +kernel
theorem dX4_blanksEnd_25 : decode cX4_blanksEnd 25 = .ok (.iload_n 2, 1) := by decide +kernel
theorem dX4_blanksEnd_26 : decode cX4_blanksEnd 26 = .ok (.iaload, 1) := by decide +kernel
theorem dX4_blanksEnd_27 : decode cX4_blanksEnd 27 = .ok (.bipush 10, 2) := by decide +kernel
theorem dX4_blanksEnd_29 : decode cX4_blanksEnd 29 = .ok (.if_icmp .ne 9, 3) := by decide +kernel
theorem dX4_blanksEnd_32 : decode cX4_blanksEnd 32 = .ok (.iinc 2 1, 3) := by decide +kernel
theorem dX4_blanksEnd_35 : decode cX4_blanksEnd 35 = .ok (.goto (-33), 3) := by decide +kernel
theorem dX4_blanksEnd_38 : decode cX4_blanksEnd 38 = .ok (.iload_n 2, 1) := by decide +kernel
theorem dX4_blanksEnd_39 : decode cX4_blanksEnd 39 = .ok (.ireturn, 1) := by decide +kernel
theorem dX4_runEnd_0 : decode cX4_runEnd 0 = .ok (.aload_n 0, 1) := by decide +kernel
theorem dX4_runEnd_1 : decode cX4_runEnd 1 = .ok (.getfield 71, 3) := by decide +kernel
theorem dX4_runEnd_4 : decode cX4_runEnd 4 = .ok (.istore_n 3, 1) := by decide +kernel
theorem dX4_runEnd_5 : decode cX4_runEnd 5 = .ok (.iload_n 3, 1) := by decide +kernel
theorem dX4_runEnd_6 : decode cX4_runEnd 6 = .ok (.aload_n 0, 1) := by decide +kernel
theorem dX4_runEnd_7 : decode cX4_runEnd 7 = .ok (.getfield 32, 3) := by decide +kernel
theorem dX4_runEnd_10 : decode cX4_runEnd 10 = .ok (.if_icmp .ge 29, 3) := by decide +kernel
theorem dX4_runEnd_13 : decode cX4_runEnd 13 = .ok (.aload_n 0, 1) := by decide +kernel
theorem dX4_runEnd_14 : decode cX4_runEnd 14 = .ok (.getfield 22, 3) := by decide +kernel
theorem dX4_runEnd_17 : decode cX4_runEnd 17 = .ok (.iload_n 3, 1) := by decide +kernel
theorem dX4_runEnd_18 : decode cX4_runEnd 18 = .ok (.iaload, 1) := by decide +kernel
theorem dX4_runEnd_19 : decode cX4_runEnd 19 = .ok (.iload_n 1, 1) := by decide +kernel
theorem dX4_runEnd_20 : decode cX4_runEnd 20 = .ok (.if_icmp .lt 19, 3) := by decide +kernel
theorem dX4_runEnd_23 : decode cX4_runEnd 23 = .ok (.aload_n 0, 1) := by decide +kernel
theorem dX4_runEnd_24 : decode cX4_runEnd 24 = .ok (.getfield 22, 3) := by decide +kernel
theorem dX4_runEnd_27 : decode cX4_runEnd 27 = .ok (.iload_n 3, 1) := by decide +kernel
theorem dX4_runEnd_28 : decode cX4_runEnd 28 = .ok (.iaload, 1) := by decide +kernel
theorem dX4_runEnd_29 : decode cX4_runEnd 29 = .ok (.iload_n 2, 1) := by decide +kernel
theorem dX4_runEnd_30 : decode cX4_runEnd 30 = .ok (.if_icmp .gt 9, 3) := by decide +kernel
theorem dX4_runEnd_33 : decode cX4_runEnd 33 = .ok (.iinc 3 1, 3) := by decide +kernel
theorem dX4_runEnd_36 : decode cX4_runEnd 36 = .ok (.goto (-31), 3) := by decide +kernel
theorem dX4_runEnd_39 : decode cX4_runEnd 39 = .ok (.iload_n 3, 1) := by decide +kernel
theorem dX4_runEnd_40 : decode cX4_runEnd 40 = .ok (.ireturn, 1) := by decide +kernel
theorem dX4_takeValue_0 : decode cX4_takeValue 0 = .ok (.aload_n 0, 1) := by decide +kernel
theorem dX4_takeValue_1 : decode cX4_takeValue 1 = .ok (.iconst 0, 1) := by decide +kernel
theorem dX4_takeValue_2 : decode cX4_takeValue 2 = .ok (.putfield 94, 3) := by decide +kernel
theorem dX4_takeValue_5 : decode cX4_takeValue 5 = .ok (.aload_n 0, 1) := by decide +kernel
theorem dX4_takeValue_6 : decode cX4_takeValue 6 = .ok (.getfield 71, 3) := by decide +kernel
theorem dX4_takeValue_9 : decode cX4_takeValue 9 = .ok (.istore_n 1, 1) := by decide +kernel
theorem dX4_takeValue_10 : decode cX4_takeValue 10 = .ok (.iload_n 1, 1) := by decide +kernel
theorem dX4_takeValue_11 : decode cX4_takeValue 11 = .ok (.aload_n 0, 1) := by decide +kernel
theorem dX4_takeValue_12 : decode cX4_takeValue 12 = .ok (.getfield 41, 3) := by decide +kernel
theorem dX4_takeValue_15 : decode cX4_takeValue 15 = .ok (.if_icmp .ge 30, 3) := by decide +kernel
theorem dX4_takeValue_18 : decode cX4_takeValue 18 = .ok (.aload_n 0, 1) := by decide +kernel
theorem dX4_takeValue_19 : decode cX4_takeValue 19 = .ok (.bipush 10, 2) := by decide +kernel
theorem dX4_takeValue_21 : decode cX4_takeValue 21 = .ok (.aload_n 0, 1) := by decide +kernel
theorem dX4_takeValue_22 : decode cX4_takeValue 22 = .ok (.getfield 94, 3) := by decide +kernel
theorem dX4_takeValue_25 : decode cX4_takeValue 25 = .ok (.imul, 1) := by decide +kernel
theorem dX4_takeValue_26 : decode cX4_takeValue 26 = .ok (.aload_n 0, 1) := by decide +kernel
theorem dX4_takeValue_27 : decode cX4_takeValue 27 = .ok (.getfield 22, 3) := by decide +kernel
theorem dX4_takeValue_30 : decode cX4_takeValue 30 = .ok (.iload_n 1, 1) := by decide +kernel
theorem dX4_takeValue_31 : decode cX4_takeValue 31 = .ok (.iaload, 1) := by decide +kernel
theorem dX4_takeValue_32 : decode cX4_takeValue 32 = .ok (.iadd, 1) := by decide +kernel
theorem dX4_takeValue_33 : decode cX4_takeValue 33 = .ok (.bipush 48, 2) := by decide +kernel
theorem dX4_takeValue_35 : decode cX4_takeValue 35 = .ok (.isub, 1) := by decide +kernel
theorem dX4_takeValue_36 : decode cX4_takeValue 36 = .ok (.putfield 94, 3) := by decide +kernel
theorem dX4_takeValue_39 : decode cX4_takeValue 39 = .ok (.iinc 1 1, 3) := by decide +kernel
theorem dX4_takeValue_42 : decode cX4_takeValue 42 = .ok (.goto (-32), 3) := by decide +kernel
theorem dX4_takeValue_45 : decode cX4_takeValue 45 = .ok (.return_, 1) := by decide +kernel
set_option maxRecDepth 20000 in
theorem ggX4_isWord_J0_length_8abf5 : GoodIn wsX4_isWord wsJ0_length_8abf5 := goodIn_r _ [9, 10, 11, 12, 13, 8, 14, 15, 16, 64, 65, 66, 67] (by decide +kernel) (by decide +kernel)
set_option maxRecDepth 20000 in
theorem gX4_isWord_J0_length_8abf5 : GoodIn wsX4_isWord (wsV RX4 134 RJ0 yJ0_length_8abf5 wsJ0_length_8abf5) := goodIn_app (goodIn_of _ (by decide +kernel)) ggX4_isWord_J0_length_8abf5
set_option maxRecDepth 20000 in
theorem ggX4_isWord_J0_charAt_5068e : GoodIn wsX4_isWord wsJ0_charAt_5068e := goodIn_r _ [20, 10, 21, 22, 23, 8, 24, 15, 16, 25, 26, 27, 28, 29, 30, 31, 32, 33, 34, 35, 36, 37, 38, 39, 40, 41, 42, 43, 44, 45, 46, 47, 48, 49, 50, 51, 52, 53, 64, 65, 66, 67] (by decide +kernel) (by decide +kernel)
set_option maxRecDepth 20000 in
theorem gX4_isWord_J0_charAt_5068e : GoodIn wsX4_isWord (wsV RX4 139 RJ0 yJ0_charAt_5068e wsJ0_charAt_5068e) := goodIn_app (goodIn_of _ (by decide +kernel)) ggX4_isWord_J0_charAt_5068e
theorem dX4_isWord_0 : decode cX4_isWord 0 = .ok (.aload_n 0, 1) := by decide +kernel
theorem dX4_isWord_1 : decode cX4_isWord 1 = .ok (.getfield 38, 3) := by decide +kernel
theorem dX4_isWord_4 : decode cX4_isWord 4 = .ok (.iconst 1, 1) := by decide +kernel
theorem dX4_isWord_5 : decode cX4_isWord 5 = .ok (.if_icmp .ne 19, 3) := by decide +kernel
theorem dX4_isWord_8 : decode cX4_isWord 8 = .ok (.aload_n 0, 1) := by decide +kernel
theorem dX4_isWord_9 : decode cX4_isWord 9 = .ok (.getfield 41, 3) := by decide +kernel
theorem dX4_isWord_12 : decode cX4_isWord 12 = .ok (.aload_n 0, 1) := by decide +kernel
theorem dX4_isWord_13 : decode cX4_isWord 13 = .ok (.getfield 71, 3) := by decide +kernel
theorem dX4_isWord_16 : decode cX4_isWord 16 = .ok (.isub, 1) := by decide +kernel
theorem dX4_isWord_17 : decode cX4_isWord 17 = .ok (.aload_n 1, 1) := by decide +kernel
theorem dX4_isWord_18 : decode cX4_isWord 18 = .ok (.invokevirtual 134, 3) := by decide +kernel
theorem dX4_isWord_21 : decode cX4_isWord 21 = .ok (.if_icmp .eq 5, 3) := by decide +kernel
theorem dX4_isWord_24 : decode cX4_isWord 24 = .ok (.iconst 0, 1) := by decide +kernel
theorem dX4_isWord_25 : decode cX4_isWord 25 = .ok (.ireturn, 1) := by decide +kernel
theorem dX4_isWord_26 : decode cX4_isWord 26 = .ok (.iconst 0, 1) := by decide +kernel
theorem dX4_isWord_27 : decode cX4_isWord 27 = .ok (.istore_n 2, 1) := by decide +kernel
theorem dX4_isWord_28 : decode cX4_isWord 28 = .ok (.iload_n 2, 1) := by decide +kernel
theorem dX4_isWord_29 : decode cX4_isWord 29 = .ok (.aload_n 1, 1) := by decide +kernel
theorem dX4_isWord_30 : decode cX4_isWord 30 = .ok (.invokevirtual 134, 3) := by decide +kernel
theorem dX4_isWord_33 : decode cX4_isWord 33 = .ok (.if_icmp .ge 30, 3) := by decide +kernel
theorem dX4_isWord_36 : decode cX4_isWord 36 = .ok (.aload_n 0, 1) := by decide +kernel
theorem dX4_isWord_37 : decode cX4_isWord 37 = .ok (.getfield 22, 3) := by decide +kernel
theorem dX4_isWord_40 : decode cX4_isWord 40 = .ok (.aload_n 0, 1) := by decide +kernel
theorem dX4_isWord_41 : decode cX4_isWord 41 = .ok (.getfield 71, 3) := by decide +kernel
theorem dX4_isWord_44 : decode cX4_isWord 44 = .ok (.iload_n 2, 1) := by decide +kernel
theorem dX4_isWord_45 : decode cX4_isWord 45 = .ok (.iadd, 1) := by decide +kernel
theorem dX4_isWord_46 : decode cX4_isWord 46 = .ok (.iaload, 1) := by decide +kernel
theorem dX4_isWord_47 : decode cX4_isWord 47 = .ok (.aload_n 1, 1) := by decide +kernel
theorem dX4_isWord_48 : decode cX4_isWord 48 = .ok (.iload_n 2, 1) := by decide +kernel
theorem dX4_isWord_49 : decode cX4_isWord 49 = .ok (.invokevirtual 139, 3) := by decide +kernel
theorem dX4_isWord_52 : decode cX4_isWord 52 = .ok (.if_icmp .eq 5, 3) := by decide +kernel
theorem dX4_isWord_55 : decode cX4_isWord 55 = .ok (.iconst 0, 1) := by decide +kernel
theorem dX4_isWord_56 : decode cX4_isWord 56 = .ok (.ireturn, 1) := by decide +kernel
theorem dX4_isWord_57 : decode cX4_isWord 57 = .ok (.iinc 2 1, 3) := by decide +kernel
theorem dX4_isWord_60 : decode cX4_isWord 60 = .ok (.goto (-32), 3) := by decide +kernel
theorem dX4_isWord_63 : decode cX4_isWord 63 = .ok (.iconst 1, 1) := by decide +kernel
theorem dX4_isWord_64 : decode cX4_isWord 64 = .ok (.ireturn, 1) := by decide +kernel
set_option maxRecDepth 20000 in
theorem ggX5_init_X1_init : GoodIn wsX5_init wsX1_init := goodIn_r _ [33, 34, 2, 3, 8, 35, 36, 37, 38, 82, 83, 84, 85, 86, 87, 88, 89, 90] (by decide +kernel) (by decide +kernel)
set_option maxRecDepth 20000 in
theorem gX5_init_X1_init_n11 : GoodIn wsX5_init (wsX1_init) := ggX5_init_X1_init
set_option maxRecDepth 20000 in
theorem ggX5_init_X4_init : GoodIn wsX5_init wsX4_init := goodIn_r _ [41, 42, 2, 3, 43, 5, 6, 44, 45, 46, 32, 33, 34, 8, 35, 36, 37, 38, 82, 83, 84, 85, 86, 87, 88, 89, 90, 103, 104, 105, 106, 107, 108, 109, 110, 111, 112] (by decide +kernel) (by decide +kernel)
set_option maxRecDepth 20000 in
theorem gX5_init_X4_init : GoodIn wsX5_init (wsX4_init) := ggX5_init_X4_init
set_option maxRecDepth 20000 in
theorem ggX5_init_X2_init : GoodIn wsX5_init wsX2_init := goodIn_r _ [49, 50, 2, 3, 51, 52, 5, 6, 32, 33, 34, 8, 35, 36, 37, 38, 113, 114, 115, 82, 83, 84, 85, 86, 87, 88, 89, 90] (by decide +kernel) (by decide +kernel)
set_option maxRecDepth 20000 in
theorem gX5_init_X2_init : GoodIn wsX5_init (wsX2_init) := ggX5_init_X2_init
set_option maxRecDepth 20000 in
theorem ggX5_init_X0_init : GoodIn wsX5_init wsX0_init := goodIn_r _ [54, 55, 2, 3, 8, 56, 57, 58, 116, 117, 118, 119, 120] (by decide +kernel) (by decide +kernel)
set_option maxRecDepth 20000 in
theorem gX5_init_X0_init_n46 : GoodIn wsX5_init (wsX0_init) := ggX5_init_X0_init
set_option maxRecDepth 20000 in
theorem ggX5_init_X3_init : GoodIn wsX5_init wsX3_init := goodIn_r _ [61, 62, 2, 3, 8, 63, 64, 121, 122, 123, 124, 125] (by decide +kernel) (by decide +kernel)
set_option maxRecDepth 20000 in
theorem gX5_init_X3_init : GoodIn wsX5_init (wsX3_init) := ggX5_init_X3_init
set_option maxRecDepth 20000 in
theorem ggX5_init_X1_appendPlace : GoodIn wsX5_init wsX1_appendPlace := goodIn_r _ [68, 69, 35, 70, 82, 83, 84, 85, 86, 87, 88, 89, 90] (by decide +kernel) (by decide +kernel)
set_option maxRecDepth 20000 in
theorem gX5_init_X1_appendPlace : GoodIn wsX5_init (wsV RX5 67 RX1 yX1_appendPlace wsX1_appendPlace) := goodIn_app (goodIn_of _ (by decide +kernel)) ggX5_init_X1_appendPlace
set_option maxRecDepth 20000 in
theorem ggX5_init_X1_appendMove : GoodIn wsX5_init wsX1_appendMove := goodIn_r _ [74, 75, 36, 37, 82, 83, 84, 85, 86, 87, 88, 89, 90] (by decide +kernel) (by decide +kernel)
set_option maxRecDepth 20000 in
theorem gX5_init_X1_appendMove : GoodIn wsX5_init (wsV RX5 71 RX1 yX1_appendMove wsX1_appendMove) := goodIn_app (goodIn_of _ (by decide +kernel)) ggX5_init_X1_appendMove
set_option maxRecDepth 20000 in
theorem ggX5_init_X1_layAt : GoodIn wsX5_init wsX1_layAt := goodIn_r _ [79, 80, 81, 38, 35, 82, 83, 84, 85, 86, 87, 88, 89, 90] (by decide +kernel) (by decide +kernel)
set_option maxRecDepth 20000 in
theorem gX5_init_X1_layAt : GoodIn wsX5_init (wsV RX5 74 RX1 yX1_layAt wsX1_layAt) := goodIn_app (goodIn_of _ (by decide +kernel)) ggX5_init_X1_layAt
theorem dX5_init_0 : decode cX5_init 0 = .ok (.aload_n 0, 1) := by decide +kernel
theorem dX5_init_1 : decode cX5_init 1 = .ok (.invokespecial 3, 3) := by decide +kernel
theorem dX5_init_4 : decode cX5_init 4 = .ok (.aload_n 0, 1) := by decide +kernel
theorem dX5_init_5 : decode cX5_init 5 = .ok (.new 9, 3) := by decide +kernel
theorem dX5_init_8 : decode cX5_init 8 = .ok (.dup, 1) := by decide +kernel
theorem dX5_init_9 : decode cX5_init 9 = .ok (.invokespecial 11, 3) := by decide +kernel
theorem dX5_init_12 : decode cX5_init 12 = .ok (.putfield 12, 3) := by decide +kernel
theorem dX5_init_15 : decode cX5_init 15 = .ok (.aload_n 0, 1) := by decide +kernel
theorem dX5_init_16 : decode cX5_init 16 = .ok (.sipush 600, 3) := by decide +kernel
theorem dX5_init_19 : decode cX5_init 19 = .ok (.newarray .int, 2) := by decide +kernel
theorem dX5_init_21 : decode cX5_init 21 = .ok (.putfield 16, 3) := by decide +kernel
theorem dX5_init_24 : decode cX5_init 24 = .ok (.aload_n 0, 1) := by decide +kernel
theorem dX5_init_25 : decode cX5_init 25 = .ok (.new 20, 3) := by decide +kernel
theorem dX5_init_28 : decode cX5_init 28 = .ok (.dup, 1) := by decide +kernel
theorem dX5_init_29 : decode cX5_init 29 = .ok (.aload_n 0, 1) := by decide +kernel
theorem dX5_init_30 : decode cX5_init 30 = .ok (.getfield 16, 3) := by decide +kernel
theorem dX5_init_33 : decode cX5_init 33 = .ok (.invokespecial 22, 3) := by decide +kernel
theorem dX5_init_36 : decode cX5_init 36 = .ok (.putfield 25, 3) := by decide +kernel
theorem dX5_init_39 : decode cX5_init 39 = .ok (.aload_n 0, 1) := by decide +kernel
theorem dX5_init_40 : decode cX5_init 40 = .ok (.new 29, 3) := by decide +kernel
theorem dX5_init_43 : decode cX5_init 43 = .ok (.dup, 1) := by decide +kernel
theorem dX5_init_44 : decode cX5_init 44 = .ok (.invokespecial 31, 3) := by decide +kernel
theorem dX5_init_47 : decode cX5_init 47 = .ok (.putfield 32, 3) := by decide +kernel
theorem dX5_init_50 : decode cX5_init 50 = .ok (.aload_n 0, 1) := by decide +kernel
theorem dX5_init_51 : decode cX5_init 51 = .ok (.iconst 2, 1) := by decide +kernel
theorem dX5_init_52 : decode cX5_init 52 = .ok (.anewarray 9, 3) := by decide +kernel
theorem dX5_init_55 : decode cX5_init 55 = .ok (.putfield 36, 3) := by decide +kernel
theorem dX5_init_58 : decode cX5_init 58 = .ok (.iconst 0, 1) := by decide +kernel
theorem dX5_init_59 : decode cX5_init 59 = .ok (.istore_n 1, 1) := by decide +kernel
theorem dX5_init_60 : decode cX5_init 60 = .ok (.iload_n 1, 1) := by decide +kernel
theorem dX5_init_61 : decode cX5_init 61 = .ok (.iconst 2, 1) := by decide +kernel
theorem dX5_init_62 : decode cX5_init 62 = .ok (.if_icmp .ge 22, 3) := by decide +kernel
theorem dX5_init_65 : decode cX5_init 65 = .ok (.aload_n 0, 1) := by decide +kernel
theorem dX5_init_66 : decode cX5_init 66 = .ok (.getfield 36, 3) := by decide +kernel
theorem dX5_init_69 : decode cX5_init 69 = .ok (.iload_n 1, 1) := by decide +kernel
theorem dX5_init_70 : decode cX5_init 70 = .ok (.new 9, 3) := by decide +kernel
theorem dX5_init_73 : decode cX5_init 73 = .ok (.dup, 1) := by decide +kernel
theorem dX5_init_74 : decode cX5_init 74 = .ok (.invokespecial 11, 3) := by decide +kernel
theorem dX5_init_77 : decode cX5_init 77 = .ok (.aastore, 1) := by decide +kernel
theorem dX5_init_78 : decode cX5_init 78 = .ok (.iinc 1 1, 3) := by decide +kernel
theorem dX5_init_81 : decode cX5_init 81 = .ok (.goto (-21), 3) := by decide +kernel
theorem dX5_init_84 : decode cX5_init 84 = .ok (.aload_n 0, 1) := by decide +kernel
theorem dX5_init_85 : decode cX5_init 85 = .ok (.iconst 2, 1) := by decide +kernel
theorem dX5_init_86 : decode cX5_init 86 = .ok (.newarray .boolean, 2) := by decide +kernel
theorem dX5_init_88 : decode cX5_init 88 = .ok (.putfield 40, 3) := by decide +kernel
theorem dX5_init_91 : decode cX5_init 91 = .ok (.aload_n 0, 1) := by decide +kernel
theorem dX5_init_92 : decode cX5_init 92 = .ok (.new 44, 3) := by decide +kernel
theorem dX5_init_95 : decode cX5_init 95 = .ok (.dup, 1) := by decide +kernel
theorem dX5_init_96 : decode cX5_init 96 = .ok (.invokespecial 46, 3) := by decide +kernel
theorem dX5_init_99 : decode cX5_init 99 = .ok (.putfield 47, 3) := by decide +kernel
theorem dX5_init_102 : decode cX5_init 102 = .ok (.aload_n 0, 1) := by decide +kernel
theorem dX5_init_103 : decode cX5_init 103 = .ok (.new 51, 3) := by decide +kernel
theorem dX5_init_106 : decode cX5_init 106 = .ok (.dup, 1) := by decide +kernel
theorem dX5_init_107 : decode cX5_init 107 = .ok (.aload_n 0, 1) := by decide +kernel
theorem dX5_init_108 : decode cX5_init 108 = .ok (.getfield 47, 3) := by decide +kernel
theorem dX5_init_111 : decode cX5_init 111 = .ok (.invokespecial 53, 3) := by decide +kernel
theorem dX5_init_114 : decode cX5_init 114 = .ok (.putfield 56, 3) := by decide +kernel
theorem dX5_init_117 : decode cX5_init 117 = .ok (.aload_n 0, 1) := by decide +kernel
theorem dX5_init_118 : decode cX5_init 118 = .ok (.bipush 20, 2) := by decide +kernel
theorem dX5_init_120 : decode cX5_init 120 = .ok (.newarray .int, 2) := by decide +kernel
theorem dX5_init_122 : decode cX5_init 122 = .ok (.putfield 60, 3) := by decide +kernel
theorem dX5_init_125 : decode cX5_init 125 = .ok (.aload_n 0, 1) := by decide +kernel
theorem dX5_init_126 : decode cX5_init 126 = .ok (.sipush 140, 3) := by decide +kernel
theorem dX5_init_129 : decode cX5_init 129 = .ok (.newarray .byte, 2) := by decide +kernel
theorem dX5_init_131 : decode cX5_init 131 = .ok (.putfield 63, 3) := by decide +kernel
theorem dX5_init_134 : decode cX5_init 134 = .ok (.aload_n 0, 1) := by decide +kernel
theorem dX5_init_135 : decode cX5_init 135 = .ok (.getfield 12, 3) := by decide +kernel
theorem dX5_init_138 : decode cX5_init 138 = .ok (.iconst 0, 1) := by decide +kernel
theorem dX5_init_139 : decode cX5_init 139 = .ok (.iconst 0, 1) := by decide +kernel
theorem dX5_init_140 : decode cX5_init 140 = .ok (.invokevirtual 67, 3) := by decide +kernel
theorem dX5_init_143 : decode cX5_init 143 = .ok (.aload_n 0, 1) := by decide +kernel
theorem dX5_init_144 : decode cX5_init 144 = .ok (.getfield 12, 3) := by decide +kernel
theorem dX5_init_147 : decode cX5_init 147 = .ok (.iconst 0, 1) := by decide +kernel
theorem dX5_init_148 : decode cX5_init 148 = .ok (.iconst 1, 1) := by decide +kernel
theorem dX5_init_149 : decode cX5_init 149 = .ok (.invokevirtual 67, 3) := by decide +kernel
theorem dX5_init_152 : decode cX5_init 152 = .ok (.aload_n 0, 1) := by decide +kernel
theorem dX5_init_153 : decode cX5_init 153 = .ok (.getfield 12, 3) := by decide +kernel
theorem dX5_init_156 : decode cX5_init 156 = .ok (.iconst 1, 1) := by decide +kernel
theorem dX5_init_157 : decode cX5_init 157 = .ok (.iconst 2, 1) := by decide +kernel
theorem dX5_init_158 : decode cX5_init 158 = .ok (.invokevirtual 67, 3) := by decide +kernel
theorem dX5_init_161 : decode cX5_init 161 = .ok (.aload_n 0, 1) := by decide +kernel
theorem dX5_init_162 : decode cX5_init 162 = .ok (.getfield 12, 3) := by decide +kernel
theorem dX5_init_165 : decode cX5_init 165 = .ok (.iconst 1, 1) := by decide +kernel
theorem dX5_init_166 : decode cX5_init 166 = .ok (.iconst 3, 1) := by decide +kernel
theorem dX5_init_167 : decode cX5_init 167 = .ok (.invokevirtual 67, 3) := by decide +kernel
theorem dX5_init_170 : decode cX5_init 170 = .ok (.aload_n 0, 1) := by decide +kernel
theorem dX5_init_171 : decode cX5_init 171 = .ok (.getfield 12, 3) := by decide +kernel
theorem dX5_init_174 : decode cX5_init 174 = .ok (.iconst 0, 1) := by decide +kernel
theorem dX5_init_175 : decode cX5_init 175 = .ok (.iconst 1, 1) := by decide +kernel
theorem dX5_init_176 : decode cX5_init 176 = .ok (.invokevirtual 71, 3) := by decide +kernel
theorem dX5_init_179 : decode cX5_init 179 = .ok (.aload_n 0, 1) := by decide +kernel
theorem dX5_init_180 : decode cX5_init 180 = .ok (.getfield 12, 3) := by decide +kernel
theorem dX5_init_183 : decode cX5_init 183 = .ok (.iconst 0, 1) := by decide +kernel
theorem dX5_init_184 : decode cX5_init 184 = .ok (.iconst 2, 1) := by decide +kernel
theorem dX5_init_185 : decode cX5_init 185 = .ok (.invokevirtual 71, 3) := by decide +kernel
theorem dX5_init_188 : decode cX5_init 188 = .ok (.aload_n 0, 1) := by decide +kernel
theorem dX5_init_189 : decode cX5_init 189 = .ok (.getfield 12, 3) := by decide +kernel
theorem dX5_init_192 : decode cX5_init 192 = .ok (.iconst 1, 1) := by decide +kernel
theorem dX5_init_193 : decode cX5_init 193 = .ok (.iconst 0, 1) := by decide +kernel
theorem dX5_init_194 : decode cX5_init 194 = .ok (.invokevirtual 71, 3) := by decide +kernel
theorem dX5_init_197 : decode cX5_init 197 = .ok (.aload_n 0, 1) := by decide +kernel
theorem dX5_init_198 : decode cX5_init 198 = .ok (.getfield 12, 3) := by decide +kernel
theorem dX5_init_201 : decode cX5_init 201 = .ok (.iconst 1, 1) := by decide +kernel
theorem dX5_init_202 : decode cX5_init 202 = .ok (.iconst 3, 1) := by decide +kernel
theorem dX5_init_203 : decode cX5_init 203 = .ok (.invokevirtual 71, 3) := by decide +kernel
theorem dX5_init_206 : decode cX5_init 206 = .ok (.aload_n 0, 1) := by decide +kernel
theorem dX5_init_207 : decode cX5_init 207 = .ok (.getfield 12, 3) := by decide +kernel
theorem dX5_init_210 : decode cX5_init 210 = .ok (.iconst 2, 1) := by decide +kernel
theorem dX5_init_211 : decode cX5_init 211 = .ok (.iconst 0, 1) := by decide +kernel
theorem dX5_init_212 : decode cX5_init 212 = .ok (.invokevirtual 71, 3) := by decide +kernel
theorem dX5_init_215 : decode cX5_init 215 = .ok (.aload_n 0, 1) := by decide +kernel
theorem dX5_init_216 : decode cX5_init 216 = .ok (.getfield 12, 3) := by decide +kernel
theorem dX5_init_219 : decode cX5_init 219 = .ok (.iconst 2, 1) := by decide +kernel
theorem dX5_init_220 : decode cX5_init 220 = .ok (.iconst 3, 1) := by decide +kernel
theorem dX5_init_221 : decode cX5_init 221 = .ok (.invokevirtual 71, 3) := by decide +kernel
theorem dX5_init_224 : decode cX5_init 224 = .ok (.aload_n 0, 1) := by decide +kernel
theorem dX5_init_225 : decode cX5_init 225 = .ok (.getfield 12, 3) := by decide +kernel
theorem dX5_init_228 : decode cX5_init 228 = .ok (.iconst 3, 1) := by decide +kernel
theorem dX5_init_229 : decode cX5_init 229 = .ok (.iconst 2, 1) := by decide +kernel
theorem dX5_init_230 : decode cX5_init 230 = .ok (.invokevirtual 71, 3) := by decide +kernel
theorem dX5_init_233 : decode cX5_init 233 = .ok (.aload_n 0, 1) := by decide +kernel
theorem dX5_init_234 : decode cX5_init 234 = .ok (.getfield 12, 3) := by decide +kernel
theorem dX5_init_237 : decode cX5_init 237 = .ok (.iconst 0, 1) := by decide +kernel
theorem dX5_init_238 : decode cX5_init 238 = .ok (.invokevirtual 74, 3) := by decide +kernel
theorem dX5_init_241 : decode cX5_init 241 = .ok (.return_, 1) := by decide +kernel
set_option maxRecDepth 20000 in
theorem ggX5_feed_X5_appendFour : GoodIn wsX5_feed wsX5_appendFour := goodIn_r _ [8, 3, 9, 10, 11, 12, 13, 14, 15, 16, 17, 18, 19, 20, 21] (by decide +kernel) (by decide +kernel)
set_option maxRecDepth 20000 in
theorem gX5_feed_X5_appendFour : GoodIn wsX5_feed (wsV RX5 89 RX5 yX5_appendFour wsX5_appendFour) := goodIn_app (goodIn_of _ (by decide +kernel)) ggX5_feed_X5_appendFour
theorem dX5_feed_0 : decode cX5_feed 0 = .ok (.aload_n 0, 1) := by decide +kernel
theorem dX5_feed_1 : decode cX5_feed 1 = .ok (.getfield 78, 3) := by decide +kernel
theorem dX5_feed_4 : decode cX5_feed 4 = .ok (.sipush 580, 3) := by decide +kernel
theorem dX5_feed_7 : decode cX5_feed 7 = .ok (.if_icmp .le 13, 3) := by decide +kernel
theorem dX5_feed_10 : decode cX5_feed 10 = .ok (.new 82, 3) := by decide +kernel
theorem dX5_feed_13 : decode cX5_feed 13 = .ok (.dup, 1) := by decide +kernel
theorem dX5_feed_14 : decode cX5_feed 14 = .ok (.ldc 84, 2) := by decide +kernel
theorem dX5_feed_16 : decode cX5_feed 16 = .ok (.invokespecial 86, 3) := by decide +kernel
theorem dX5_feed_19 : decode cX5_feed 19 = .ok (.athrow, 1) := by decide +kernel
theorem dX5_feed_20 : decode cX5_feed 20 = .ok (.aload_n 0, 1) := by decide +kernel
theorem dX5_feed_21 : decode cX5_feed 21 = .ok (.iload_n 1, 1) := by decide +kernel
theorem dX5_feed_22 : decode cX5_feed 22 = .ok (.invokevirtual 89, 3) := by decide +kernel
theorem dX5_feed_25 : decode cX5_feed 25 = .ok (.aload_n 0, 1) := by decide +kernel
theorem dX5_feed_26 : decode cX5_feed 26 = .ok (.iload_n 2, 1) := by decide +kernel
theorem dX5_feed_27 : decode cX5_feed 27 = .ok (.invokevirtual 89, 3) := by decide +kernel
theorem dX5_feed_30 : decode cX5_feed 30 = .ok (.aload_n 0, 1) := by decide +kernel
theorem dX5_feed_31 : decode cX5_feed 31 = .ok (.iload_n 3, 1) := by decide +kernel
theorem dX5_feed_32 : decode cX5_feed 32 = .ok (.invokevirtual 89, 3) := by decide +kernel
theorem dX5_feed_35 : decode cX5_feed 35 = .ok (.aload_n 0, 1) := by decide +kernel
theorem dX5_feed_36 : decode cX5_feed 36 = .ok (.iload 4, 2) := by decide +kernel
theorem dX5_feed_38 : decode cX5_feed 38 = .ok (.invokevirtual 89, 3) := by decide +kernel
theorem dX5_feed_41 : decode cX5_feed 41 = .ok (.aload_n 0, 1) := by decide +kernel
theorem dX5_feed_42 : decode cX5_feed 42 = .ok (.iload 5, 2) := by decide +kernel
theorem dX5_feed_44 : decode cX5_feed 44 = .ok (.invokevirtual 89, 3) := by decide +kernel
theorem dX5_feed_47 : decode cX5_feed 47 = .ok (.aload_n 0, 1) := by decide +kernel
theorem dX5_feed_48 : decode cX5_feed 48 = .ok (.getfield 78, 3) := by decide +kernel
theorem dX5_feed_51 : decode cX5_feed 51 = .ok (.ireturn, 1) := by decide +kernel
set_option maxRecDepth 20000 in
theorem ggX5_load_X4_read : GoodIn wsX5_load wsX4_read := goodIn_r _ [17, 18, 19, 20, 21, 22, 23, 24, 25, 26, 27, 28, 29, 30, 31, 32, 33, 34, 35, 36, 37, 38, 39, 40, 41, 42, 43, 16, 44, 45, 46, 47, 48, 49, 50, 51, 52, 53, 54, 55, 56, 57, 58, 59, 60, 61, 62, 63, 64, 65, 66, 67, 68, 69, 70, 71, 72, 73, 74, 75, 76, 77, 78, 79, 80, 81, 82, 83, 84, 85, 86, 87, 88, 89, 90, 91, 92, 93, 94, 95, 96, 97, 98, 99, 100, 101, 102, 103, 104, 105, 106, 107, 108, 109, 110, 111, 112, 113, 114, 115, 116, 117, 118, 119, 120, 121, 122, 123, 124, 125, 126, 127, 128, 129, 130, 131, 132, 133, 134, 135, 136, 137, 138, 139, 140, 141, 142, 143, 144, 145, 146, 147, 148, 149, 150, 151, 152, 153, 154, 155, 156, 157, 158, 159, 160, 161, 162, 163, 164, 165, 166, 167, 168, 169, 170, 171, 172, 207, 208, 209, 210, 211, 212, 213, 214, 215, 216, 217, 218, 219, 220, 221, 222, 223, 224, 225, 226, 227, 228, 229] (by decide +kernel) (by decide +kernel)
set_option maxRecDepth 20000 in
theorem gX5_load_X4_read : GoodIn wsX5_load (wsV RX5 97 RX4 yX4_read wsX4_read) := goodIn_app (goodIn_of _ (by decide +kernel)) ggX5_load_X4_read
set_option maxRecDepth 20000 in
theorem ggX5_load_X1_copy : GoodIn wsX5_load wsX1_copy := goodIn_r _ [176, 36, 37, 136, 177, 178, 179, 180, 38, 158, 159, 39, 40, 172, 217, 218, 219, 220, 221, 222, 223, 224, 225] (by decide +kernel) (by decide +kernel)
set_option maxRecDepth 20000 in
theorem gX5_load_X1_copy : GoodIn wsX5_load (wsV RX5 104 RX1 yX1_copy wsX1_copy) := goodIn_app (goodIn_of _ (by decide +kernel)) ggX5_load_X1_copy
set_option maxRecDepth 20000 in
theorem ggX5_load_X3_forget : GoodIn wsX5_load wsX3_forget := goodIn_r _ [185, 186, 187, 230, 231, 232, 233, 234] (by decide +kernel) (by decide +kernel)
set_option maxRecDepth 20000 in
theorem gX5_load_X3_forget : GoodIn wsX5_load (wsV RX5 108 RX3 yX3_forget wsX3_forget) := goodIn_app (goodIn_of _ (by decide +kernel)) ggX5_load_X3_forget
set_option maxRecDepth 20000 in
theorem ggX5_load_X2_clear : GoodIn wsX5_load wsX2_clear := goodIn_r _ [192, 193, 194, 235, 236, 237] (by decide +kernel) (by decide +kernel)
set_option maxRecDepth 20000 in
theorem gX5_load_X2_clear : GoodIn wsX5_load (wsV RX5 111 RX2 yX2_clear wsX2_clear) := goodIn_app (goodIn_of _ (by decide +kernel)) ggX5_load_X2_clear
theorem dX5_load_0 : decode cX5_load 0 = .ok (.iload_n 1, 1) := by decide +kernel
theorem dX5_load_1 : decode cX5_load 1 = .ok (.ifCond .lt 11, 3) := by decide +kernel
theorem dX5_load_4 : decode cX5_load 4 = .ok (.iload_n 1, 1) := by decide +kernel
theorem dX5_load_5 : decode cX5_load 5 = .ok (.aload_n 0, 1) := by decide +kernel
theorem dX5_load_6 : decode cX5_load 6 = .ok (.getfield 78, 3) := by decide +kernel
theorem dX5_load_9 : decode cX5_load 9 = .ok (.if_icmp .le 13, 3) := by decide +kernel
theorem dX5_load_12 : decode cX5_load 12 = .ok (.new 92, 3) := by decide +kernel
theorem dX5_load_15 : decode cX5_load 15 = .ok (.dup, 1) := by decide +kernel
theorem dX5_load_16 : decode cX5_load 16 = .ok (.ldc 94, 2) := by decide +kernel
theorem dX5_load_18 : decode cX5_load 18 = .ok (.invokespecial 96, 3) := by decide +kernel
theorem dX5_load_21 : decode cX5_load 21 = .ok (.athrow, 1) := by decide +kernel
theorem dX5_load_22 : decode cX5_load 22 = .ok (.aload_n 0, 1) := by decide +kernel
theorem dX5_load_23 : decode cX5_load 23 = .ok (.getfield 25, 3) := by decide +kernel
theorem dX5_load_26 : decode cX5_load 26 = .ok (.iload_n 1, 1) := by decide +kernel
theorem dX5_load_27 : decode cX5_load 27 = .ok (.invokevirtual 97, 3) := by decide +kernel
theorem dX5_load_30 : decode cX5_load 30 = .ok (.istore_n 2, 1) := by decide +kernel
theorem dX5_load_31 : decode cX5_load 31 = .ok (.aload_n 0, 1) := by decide +kernel
theorem dX5_load_32 : decode cX5_load 32 = .ok (.iconst 0, 1) := by decide +kernel
theorem dX5_load_33 : decode cX5_load 33 = .ok (.putfield 78, 3) := by decide +kernel
theorem dX5_load_36 : decode cX5_load 36 = .ok (.iload_n 2, 1) := by decide +kernel
theorem dX5_load_37 : decode cX5_load 37 = .ok (.ifCond .ne 13, 3) := by decide +kernel
theorem dX5_load_40 : decode cX5_load 40 = .ok (.new 82, 3) := by decide +kernel
theorem dX5_load_43 : decode cX5_load 43 = .ok (.dup, 1) := by decide +kernel
theorem dX5_load_44 : decode cX5_load 44 = .ok (.ldc 101, 2) := by decide +kernel
theorem dX5_load_46 : decode cX5_load 46 = .ok (.invokespecial 86, 3) := by decide +kernel
theorem dX5_load_49 : decode cX5_load 49 = .ok (.athrow, 1) := by decide +kernel
theorem dX5_load_50 : decode cX5_load 50 = .ok (.aload_n 0, 1) := by decide +kernel
theorem dX5_load_51 : decode cX5_load 51 = .ok (.getfield 12, 3) := by decide +kernel
theorem dX5_load_54 : decode cX5_load 54 = .ok (.aload_n 0, 1) := by decide +kernel
theorem dX5_load_55 : decode cX5_load 55 = .ok (.getfield 25, 3) := by decide +kernel
theorem dX5_load_58 : decode cX5_load 58 = .ok (.getfield 103, 3) := by decide +kernel
theorem dX5_load_61 : decode cX5_load 61 = .ok (.invokevirtual 104, 3) := by decide +kernel
theorem dX5_load_64 : decode cX5_load 64 = .ok (.aload_n 0, 1) := by decide +kernel
theorem dX5_load_65 : decode cX5_load 65 = .ok (.getfield 56, 3) := by decide +kernel
theorem dX5_load_68 : decode cX5_load 68 = .ok (.invokevirtual 108, 3) := by decide +kernel
theorem dX5_load_71 : decode cX5_load 71 = .ok (.aload_n 0, 1) := by decide +kernel
theorem dX5_load_72 : decode cX5_load 72 = .ok (.getfield 32, 3) := by decide +kernel
theorem dX5_load_75 : decode cX5_load 75 = .ok (.invokevirtual 111, 3) := by decide +kernel
theorem dX5_load_78 : decode cX5_load 78 = .ok (.iconst 0, 1) := by decide +kernel
theorem dX5_load_79 : decode cX5_load 79 = .ok (.istore_n 3, 1) := by decide +kernel
theorem dX5_load_80 : decode cX5_load 80 = .ok (.iload_n 3, 1) := by decide +kernel
theorem dX5_load_81 : decode cX5_load 81 = .ok (.iconst 2, 1) := by decide +kernel
theorem dX5_load_82 : decode cX5_load 82 = .ok (.if_icmp .ge 16, 3) := by decide +kernel
theorem dX5_load_85 : decode cX5_load 85 = .ok (.aload_n 0, 1) := by decide +kernel
theorem dX5_load_86 : decode cX5_load 86 = .ok (.getfield 40, 3) := by decide +kernel
theorem dX5_load_89 : decode cX5_load 89 = .ok (.iload_n 3, 1) := by decide +kernel
theorem dX5_load_90 : decode cX5_load 90 = .ok (.iconst 0, 1) := by decide +kernel
theorem dX5_load_91 : decode cX5_load 91 = .ok (.bastore, 1) := by decide +kernel
theorem dX5_load_92 : decode cX5_load 92 = .ok (.iinc 3 1, 3) := by decide +kernel
theorem dX5_load_95 : decode cX5_load 95 = .ok (.goto (-15), 3) := by decide +kernel
theorem dX5_load_98 : decode cX5_load 98 = .ok (.aload_n 0, 1) := by decide +kernel
theorem dX5_load_99 : decode cX5_load 99 = .ok (.getfield 12, 3) := by decide +kernel
theorem dX5_load_102 : decode cX5_load 102 = .ok (.getfield 114, 3) := by decide +kernel
theorem dX5_load_105 : decode cX5_load 105 = .ok (.ireturn, 1) := by decide +kernel
set_option maxRecDepth 20000 in
theorem ggX5_size_J6_bitCount_0f7a4 : GoodIn wsX5_size wsJ6_bitCount_0f7a4 := goodIn_r _ [13, 14, 15, 16] (by decide +kernel) (by decide +kernel)
set_option maxRecDepth 20000 in
theorem gX5_size_J6_bitCount_0f7a4 : GoodIn wsX5_size (va_wsS RX5 129 yJ6_bitCount_0f7a4 wsJ6_bitCount_0f7a4) := goodIn_app (goodIn_of _ (by decide +kernel)) ggX5_size_J6_bitCount_0f7a4
set_option maxRecDepth 20000 in
theorem ggX5_size_X0_take : GoodIn wsX5_size wsX0_take := goodIn_r _ [21, 22, 23, 24, 25, 26, 27, 28, 29, 30, 31, 32, 33, 34, 35, 20, 36, 68, 69, 70, 71, 72, 73, 74, 75, 76, 77, 78, 79, 80, 81] (by decide +kernel) (by decide +kernel)
set_option maxRecDepth 20000 in
theorem gX5_size_X0_take : GoodIn wsX5_size (wsV RX5 135 RX0 yX0_take wsX0_take) := goodIn_app (goodIn_of _ (by decide +kernel)) ggX5_size_X0_take
set_option maxRecDepth 20000 in
theorem ggX5_size_X0_deadEnds : GoodIn wsX5_size wsX0_deadEnds := goodIn_r _ [40, 23, 29, 77, 78, 79, 80, 81] (by decide +kernel) (by decide +kernel)
set_option maxRecDepth 20000 in
theorem gX5_size_X0_deadEnds : GoodIn wsX5_size (wsV RX5 138 RX0 yX0_deadEnds wsX0_deadEnds) := goodIn_app (goodIn_of _ (by decide +kernel)) ggX5_size_X0_deadEnds
set_option maxRecDepth 20000 in
theorem ggX5_size_X0_differentCalls : GoodIn wsX5_size wsX0_differentCalls := goodIn_r _ [44, 27, 77, 78, 79, 80, 81] (by decide +kernel) (by decide +kernel)
set_option maxRecDepth 20000 in
theorem gX5_size_X0_differentCalls : GoodIn wsX5_size (wsV RX5 142 RX0 yX0_differentCalls wsX0_differentCalls) := goodIn_app (goodIn_of _ (by decide +kernel)) ggX5_size_X0_differentCalls
set_option maxRecDepth 20000 in
theorem ggX5_size_X1_greatestCall : GoodIn wsX5_size wsX1_greatestCall := goodIn_r _ [49, 50, 51, 52, 53, 54, 55, 68, 69, 70, 71, 72, 73, 74, 75, 76] (by decide +kernel) (by decide +kernel)
set_option maxRecDepth 20000 in
theorem gX5_size_X1_greatestCall : GoodIn wsX5_size (wsV RX5 145 RX1 yX1_greatestCall wsX1_greatestCall) := goodIn_app (goodIn_of _ (by decide +kernel)) ggX5_size_X1_greatestCall
theorem dX5_size_0 : decode cX5_size 0 = .ok (.iload_n 1, 1) := by decide +kernel
theorem dX5_size_1 : decode cX5_size 1 = .ok (.tableswitch 147 0 7 #[47, 55, 63, 82, 104, 123, 131, 139], 47) := by decide +kernel
theorem dX5_size_48 : decode cX5_size 48 = .ok (.aload_n 0, 1) := by decide +kernel
theorem dX5_size_49 : decode cX5_size 49 = .ok (.getfield 12, 3) := by decide +kernel
theorem dX5_size_52 : decode cX5_size 52 = .ok (.getfield 114, 3) := by decide +kernel
theorem dX5_size_55 : decode cX5_size 55 = .ok (.ireturn, 1) := by decide +kernel
theorem dX5_size_56 : decode cX5_size 56 = .ok (.aload_n 0, 1) := by decide +kernel
theorem dX5_size_57 : decode cX5_size 57 = .ok (.getfield 12, 3) := by decide +kernel
theorem dX5_size_60 : decode cX5_size 60 = .ok (.getfield 123, 3) := by decide +kernel
theorem dX5_size_63 : decode cX5_size 63 = .ok (.ireturn, 1) := by decide +kernel
theorem dX5_size_64 : decode cX5_size 64 = .ok (.aload_n 0, 1) := by decide +kernel
theorem dX5_size_65 : decode cX5_size 65 = .ok (.getfield 12, 3) := by decide +kernel
theorem dX5_size_68 : decode cX5_size 68 = .ok (.getfield 114, 3) := by decide +kernel
theorem dX5_size_71 : decode cX5_size 71 = .ok (.aload_n 0, 1) := by decide +kernel
theorem dX5_size_72 : decode cX5_size 72 = .ok (.getfield 12, 3) := by decide +kernel
theorem dX5_size_75 : decode cX5_size 75 = .ok (.getfield 126, 3) := by decide +kernel
theorem dX5_size_78 : decode cX5_size 78 = .ok (.invokestatic 129, 3) := by decide +kernel
theorem dX5_size_81 : decode cX5_size 81 = .ok (.isub, 1) := by decide +kernel
theorem dX5_size_82 : decode cX5_size 82 = .ok (.ireturn, 1) := by decide +kernel
theorem dX5_size_83 : decode cX5_size 83 = .ok (.aload_n 0, 1) := by decide +kernel
theorem dX5_size_84 : decode cX5_size 84 = .ok (.getfield 47, 3) := by decide +kernel
theorem dX5_size_87 : decode cX5_size 87 = .ok (.aload_n 0, 1) := by decide +kernel
theorem dX5_size_88 : decode cX5_size 88 = .ok (.getfield 12, 3) := by decide +kernel
theorem dX5_size_91 : decode cX5_size 91 = .ok (.invokevirtual 135, 3) := by decide +kernel
theorem dX5_size_94 : decode cX5_size 94 = .ok (.aload_n 0, 1) := by decide +kernel
theorem dX5_size_95 : decode cX5_size 95 = .ok (.getfield 47, 3) := by decide +kernel
theorem dX5_size_98 : decode cX5_size 98 = .ok (.invokevirtual 138, 3) := by decide +kernel
theorem dX5_size_101 : decode cX5_size 101 = .ok (.invokestatic 129, 3) := by decide +kernel
theorem dX5_size_104 : decode cX5_size 104 = .ok (.ireturn, 1) := by decide +kernel
theorem dX5_size_105 : decode cX5_size 105 = .ok (.aload_n 0, 1) := by decide +kernel
theorem dX5_size_106 : decode cX5_size 106 = .ok (.getfield 47, 3) := by decide +kernel
theorem dX5_size_109 : decode cX5_size 109 = .ok (.aload_n 0, 1) := by decide +kernel
theorem dX5_size_110 : decode cX5_size 110 = .ok (.getfield 12, 3) := by decide +kernel
theorem dX5_size_113 : decode cX5_size 113 = .ok (.invokevirtual 135, 3) := by decide +kernel
theorem dX5_size_116 : decode cX5_size 116 = .ok (.aload_n 0, 1) := by decide +kernel
theorem dX5_size_117 : decode cX5_size 117 = .ok (.getfield 47, 3) := by decide +kernel
theorem dX5_size_120 : decode cX5_size 120 = .ok (.invokevirtual 142, 3) := by decide +kernel
theorem dX5_size_123 : decode cX5_size 123 = .ok (.ireturn, 1) := by decide +kernel
theorem dX5_size_124 : decode cX5_size 124 = .ok (.aload_n 0, 1) := by decide +kernel
theorem dX5_size_125 : decode cX5_size 125 = .ok (.getfield 12, 3) := by decide +kernel
theorem dX5_size_128 : decode cX5_size 128 = .ok (.invokevirtual 145, 3) := by decide +kernel
theorem dX5_size_131 : decode cX5_size 131 = .ok (.ireturn, 1) := by decide +kernel
theorem dX5_size_132 : decode cX5_size 132 = .ok (.aload_n 0, 1) := by decide +kernel
theorem dX5_size_133 : decode cX5_size 133 = .ok (.getfield 12, 3) := by decide +kernel
theorem dX5_size_136 : decode cX5_size 136 = .ok (.getfield 148, 3) := by decide +kernel
theorem dX5_size_139 : decode cX5_size 139 = .ok (.ireturn, 1) := by decide +kernel
theorem dX5_size_140 : decode cX5_size 140 = .ok (.aload_n 0, 1) := by decide +kernel
theorem dX5_size_141 : decode cX5_size 141 = .ok (.getfield 12, 3) := by decide +kernel
theorem dX5_size_144 : decode cX5_size 144 = .ok (.getfield 151, 3) := by decide +kernel
theorem dX5_size_147 : decode cX5_size 147 = .ok (.ireturn, 1) := by decide +kernel
theorem dX5_size_148 : decode cX5_size 148 = .ok (.new 92, 3) := by decide +kernel
theorem dX5_size_151 : decode cX5_size 151 = .ok (.dup, 1) := by decide +kernel
theorem dX5_size_152 : decode cX5_size 152 = .ok (.ldc 154, 2) := by decide +kernel
theorem dX5_size_154 : decode cX5_size 154 = .ok (.invokespecial 96, 3) := by decide +kernel
theorem dX5_size_157 : decode cX5_size 157 = .ok (.athrow, 1) := by decide +kernel
set_option maxRecDepth 20000 in
theorem ggX5_place_X5_needPlace : GoodIn wsX5_place wsX5_needPlace := goodIn_ca (goodIn_r _ [9, 10, 11, 3, 12, 13, 14, 15, 16, 17, 94, 95, 96, 97, 98, 99, 100, 101, 102, 103, 104, 105, 106, 107, 108, 109, 110, 111, 112, 113, 114] (by decide +kernel) (by decide +kernel)) (goodIn_sub (fun _ h => List.mem_cons_of_mem _ (List.mem_append_right _ h)) (by decide +kernel))
set_option maxRecDepth 20000 in
theorem gX5_place_X5_needPlace : GoodIn wsX5_place (wsV RX5 156 RX5 yX5_needPlace wsX5_needPlace) := goodIn_app (goodIn_of _ (by decide +kernel)) ggX5_place_X5_needPlace
set_option maxRecDepth 20000 in
theorem ggX5_place_X1_ownerOf : GoodIn wsX5_place wsX1_ownerOf := goodIn_r _ [21, 22, 106, 107, 108, 109, 110, 111, 112, 113, 114] (by decide +kernel) (by decide +kernel)
set_option maxRecDepth 20000 in
theorem gX5_place_X1_ownerOf : GoodIn wsX5_place (wsV RX5 159 RX1 yX1_ownerOf wsX1_ownerOf) := goodIn_app (goodIn_of _ (by decide +kernel)) ggX5_place_X1_ownerOf
set_option maxRecDepth 20000 in
theorem ggX5_place_X1_movesFrom : GoodIn wsX5_place wsX1_movesFrom := goodIn_r _ [26, 27, 28, 106, 107, 108, 109, 110, 111, 112, 113, 114] (by decide +kernel) (by decide +kernel)
set_option maxRecDepth 20000 in
theorem gX5_place_X1_movesFrom : GoodIn wsX5_place (wsV RX5 165 RX1 yX1_movesFrom wsX1_movesFrom) := goodIn_app (goodIn_of _ (by decide +kernel)) ggX5_place_X1_movesFrom
set_option maxRecDepth 20000 in
theorem ggX5_place_X1_movesTo : GoodIn wsX5_place wsX1_movesTo := goodIn_r _ [32, 27, 33, 106, 107, 108, 109, 110, 111, 112, 113, 114] (by decide +kernel) (by decide +kernel)
set_option maxRecDepth 20000 in
theorem gX5_place_X1_movesTo : GoodIn wsX5_place (wsV RX5 168 RX1 yX1_movesTo wsX1_movesTo) := goodIn_app (goodIn_of _ (by decide +kernel)) ggX5_place_X1_movesTo
set_option maxRecDepth 20000 in
theorem ggX5_place_X5_winnerOf : GoodIn wsX5_place wsX5_winnerOf := goodIn_r _ [37, 38, 3, 39, 40, 41, 42, 43, 44, 45, 46, 47, 48, 49, 50, 51, 52, 53, 54, 55, 56, 57, 58, 59, 60, 61, 62, 63, 64, 65, 66, 67, 68, 69, 70, 71, 72, 73, 74, 75, 76, 77, 78, 79, 80, 81, 82, 83, 84, 85, 86, 87, 88, 89, 90, 91, 92, 8, 93, 94, 95, 96, 97, 98, 99, 100, 101, 102, 103, 104, 105, 115, 116, 117, 118, 119, 106, 107, 108, 109, 110, 111, 112, 113, 114, 120, 121, 122, 123, 124] (by decide +kernel) (by decide +kernel)
set_option maxRecDepth 20000 in
theorem gX5_place_X5_winnerOf : GoodIn wsX5_place (wsV RX5 171 RX5 yX5_winnerOf wsX5_winnerOf) := goodIn_app (goodIn_of _ (by decide +kernel)) ggX5_place_X5_winnerOf
theorem dX5_place_0 : decode cX5_place 0 = .ok (.aload_n 0, 1) := by decide +kernel
theorem dX5_place_1 : decode cX5_place 1 = .ok (.iload_n 1, 1) := by decide +kernel
theorem dX5_place_2 : decode cX5_place 2 = .ok (.invokevirtual 156, 3) := by decide +kernel
theorem dX5_place_5 : decode cX5_place 5 = .ok (.iload_n 2, 1) := by decide +kernel
theorem dX5_place_6 : decode cX5_place 6 = .ok (.tableswitch 77 0 4 #[34, 43, 53, 62, 71], 34) := by decide +kernel
theorem dX5_place_40 : decode cX5_place 40 = .ok (.aload_n 0, 1) := by decide +kernel
theorem dX5_place_41 : decode cX5_place 41 = .ok (.getfield 12, 3) := by decide +kernel
theorem dX5_place_44 : decode cX5_place 44 = .ok (.iload_n 1, 1) := by decide +kernel
theorem dX5_place_45 : decode cX5_place 45 = .ok (.invokevirtual 159, 3) := by decide +kernel
theorem dX5_place_48 : decode cX5_place 48 = .ok (.ireturn, 1) := by decide +kernel
theorem dX5_place_49 : decode cX5_place 49 = .ok (.aload_n 0, 1) := by decide +kernel
theorem dX5_place_50 : decode cX5_place 50 = .ok (.getfield 12, 3) := by decide +kernel
theorem dX5_place_53 : decode cX5_place 53 = .ok (.getfield 162, 3) := by decide +kernel
theorem dX5_place_56 : decode cX5_place 56 = .ok (.iload_n 1, 1) := by decide +kernel
theorem dX5_place_57 : decode cX5_place 57 = .ok (.iaload, 1) := by decide +kernel
theorem dX5_place_58 : decode cX5_place 58 = .ok (.ireturn, 1) := by decide +kernel
theorem dX5_place_59 : decode cX5_place 59 = .ok (.aload_n 0, 1) := by decide +kernel
theorem dX5_place_60 : decode cX5_place 60 = .ok (.getfield 12, 3) := by decide +kernel
theorem dX5_place_63 : decode cX5_place 63 = .ok (.iload_n 1, 1) := by decide +kernel
theorem dX5_place_64 : decode cX5_place 64 = .ok (.invokevirtual 165, 3) := by decide +kernel
theorem dX5_place_67 : decode cX5_place 67 = .ok (.ireturn, 1) := by decide +kernel
theorem dX5_place_68 : decode cX5_place 68 = .ok (.aload_n 0, 1) := by decide +kernel
theorem dX5_place_69 : decode cX5_place 69 = .ok (.getfield 12, 3) := by decide +kernel
theorem dX5_place_72 : decode cX5_place 72 = .ok (.iload_n 1, 1) := by decide +kernel
theorem dX5_place_73 : decode cX5_place 73 = .ok (.invokevirtual 168, 3) := by decide +kernel
theorem dX5_place_76 : decode cX5_place 76 = .ok (.ireturn, 1) := by decide +kernel
theorem dX5_place_77 : decode cX5_place 77 = .ok (.aload_n 0, 1) := by decide +kernel
theorem dX5_place_78 : decode cX5_place 78 = .ok (.iload_n 1, 1) := by decide +kernel
theorem dX5_place_79 : decode cX5_place 79 = .ok (.invokevirtual 171, 3) := by decide +kernel
theorem dX5_place_82 : decode cX5_place 82 = .ok (.ireturn, 1) := by decide +kernel
theorem dX5_place_83 : decode cX5_place 83 = .ok (.new 92, 3) := by decide +kernel
theorem dX5_place_86 : decode cX5_place 86 = .ok (.dup, 1) := by decide +kernel
theorem dX5_place_87 : decode cX5_place 87 = .ok (.ldc 154, 2) := by decide +kernel
theorem dX5_place_89 : decode cX5_place 89 = .ok (.invokespecial 96, 3) := by decide +kernel
theorem dX5_place_92 : decode cX5_place 92 = .ok (.athrow, 1) := by decide +kernel
set_option maxRecDepth 20000 in
theorem ggX5_move_X5_needMove : GoodIn wsX5_move wsX5_needMove := goodIn_ca (goodIn_r _ [10, 11, 12, 3, 13, 14, 15, 16, 17, 18, 19, 20, 21, 22, 23, 24, 25, 26, 27, 28, 29, 30, 31, 32, 33, 34] (by decide +kernel) (by decide +kernel)) (goodIn_sub (fun _ h => List.mem_cons_of_mem _ (List.mem_append_right _ h)) (by decide +kernel))
set_option maxRecDepth 20000 in
theorem gX5_move_X5_needMove : GoodIn wsX5_move (wsV RX5 174 RX5 yX5_needMove wsX5_needMove) := goodIn_app (goodIn_of _ (by decide +kernel)) ggX5_move_X5_needMove
theorem dX5_move_0 : decode cX5_move 0 = .ok (.aload_n 0, 1) := by decide +kernel
theorem dX5_move_1 : decode cX5_move 1 = .ok (.iload_n 1, 1) := by decide +kernel
theorem dX5_move_2 : decode cX5_move 2 = .ok (.invokevirtual 174, 3) := by decide +kernel
theorem dX5_move_5 : decode cX5_move 5 = .ok (.iload_n 2, 1) := by decide +kernel
theorem dX5_move_6 : decode cX5_move 6 = .ok (.ifCond .eq 18, 3) := by decide +kernel
theorem dX5_move_9 : decode cX5_move 9 = .ok (.iload_n 2, 1) := by decide +kernel
theorem dX5_move_10 : decode cX5_move 10 = .ok (.iconst 1, 1) := by decide +kernel
theorem dX5_move_11 : decode cX5_move 11 = .ok (.if_icmp .eq 13, 3) := by decide +kernel
theorem dX5_move_14 : decode cX5_move 14 = .ok (.new 92, 3) := by decide +kernel
theorem dX5_move_17 : decode cX5_move 17 = .ok (.dup, 1) := by decide +kernel
theorem dX5_move_18 : decode cX5_move 18 = .ok (.ldc 177, 2) := by decide +kernel
theorem dX5_move_20 : decode cX5_move 20 = .ok (.invokespecial 96, 3) := by decide +kernel
theorem dX5_move_23 : decode cX5_move 23 = .ok (.athrow, 1) := by decide +kernel
theorem dX5_move_24 : decode cX5_move 24 = .ok (.iload_n 2, 1) := by decide +kernel
theorem dX5_move_25 : decode cX5_move 25 = .ok (.ifCond .ne 15, 3) := by decide +kernel
theorem dX5_move_28 : decode cX5_move 28 = .ok (.aload_n 0, 1) := by decide +kernel
theorem dX5_move_29 : decode cX5_move 29 = .ok (.getfield 12, 3) := by decide +kernel
theorem dX5_move_32 : decode cX5_move 32 = .ok (.getfield 179, 3) := by decide +kernel
theorem dX5_move_35 : decode cX5_move 35 = .ok (.iload_n 1, 1) := by decide +kernel
theorem dX5_move_36 : decode cX5_move 36 = .ok (.iaload, 1) := by decide +kernel
theorem dX5_move_37 : decode cX5_move 37 = .ok (.goto 12, 3) := by decide +kernel
theorem dX5_move_40 : decode cX5_move 40 = .ok (.aload_n 0, 1) := by decide +kernel
theorem dX5_move_41 : decode cX5_move 41 = .ok (.getfield 12, 3) := by decide +kernel
theorem dX5_move_44 : decode cX5_move 44 = .ok (.getfield 182, 3) := by decide +kernel
theorem dX5_move_47 : decode cX5_move 47 = .ok (.iload_n 1, 1) := by decide +kernel
theorem dX5_move_48 : decode cX5_move 48 = .ok (.iaload, 1) := by decide +kernel
theorem dX5_move_49 : decode cX5_move 49 = .ok (.ireturn, 1) := by decide +kernel
set_option maxRecDepth 20000 in
theorem ggX5_moveBetween_X5_needPlace : GoodIn wsX5_moveBetween wsX5_needPlace := goodIn_ca (goodIn_r _ [6, 7, 8, 1, 9, 10, 11, 12, 13, 14, 22, 23, 24, 25, 26, 27, 28, 29, 30, 31, 32, 33, 34, 35, 36, 37, 38, 39, 40, 41, 42] (by decide +kernel) (by decide +kernel)) (goodIn_sub (fun _ h => List.mem_cons_of_mem _ (List.mem_append_right _ h)) (by decide +kernel))
set_option maxRecDepth 20000 in
theorem gX5_moveBetween_X5_needPlace : GoodIn wsX5_moveBetween (wsV RX5 156 RX5 yX5_needPlace wsX5_needPlace) := goodIn_app (goodIn_of _ (by decide +kernel)) ggX5_moveBetween_X5_needPlace
set_option maxRecDepth 20000 in
theorem ggX5_moveBetween_X1_findMove : GoodIn wsX5_moveBetween wsX1_findMove := goodIn_r _ [18, 19, 20, 21, 34, 35, 36, 37, 38, 39, 40, 41, 42] (by decide +kernel) (by decide +kernel)
set_option maxRecDepth 20000 in
theorem gX5_moveBetween_X1_findMove : GoodIn wsX5_moveBetween (wsV RX5 185 RX1 yX1_findMove wsX1_findMove) := goodIn_app (goodIn_of _ (by decide +kernel)) ggX5_moveBetween_X1_findMove
theorem dX5_moveBetween_0 : decode cX5_moveBetween 0 = .ok (.aload_n 0, 1) := by decide +kernel
theorem dX5_moveBetween_1 : decode cX5_moveBetween 1 = .ok (.iload_n 1, 1) := by decide +kernel
theorem dX5_moveBetween_2 : decode cX5_moveBetween 2 = .ok (.invokevirtual 156, 3) := by decide +kernel
theorem dX5_moveBetween_5 : decode cX5_moveBetween 5 = .ok (.aload_n 0, 1) := by decide +kernel
theorem dX5_moveBetween_6 : decode cX5_moveBetween 6 = .ok (.iload_n 2, 1) := by decide +kernel
theorem dX5_moveBetween_7 : decode cX5_moveBetween 7 = .ok (.invokevirtual 156, 3) := by decide +kernel
theorem dX5_moveBetween_10 : decode cX5_moveBetween 10 = .ok (.aload_n 0, 1) := by decide +kernel
theorem dX5_moveBetween_11 : decode cX5_moveBetween 11 = .ok (.getfield 12, 3) := by decide +kernel
theorem dX5_moveBetween_14 : decode cX5_moveBetween 14 = .ok (.iload_n 1, 1) := by decide +kernel
theorem dX5_moveBetween_15 : decode cX5_moveBetween 15 = .ok (.iload_n 2, 1) := by decide +kernel
theorem dX5_moveBetween_16 : decode cX5_moveBetween 16 = .ok (.invokevirtual 185, 3) := by decide +kernel
theorem dX5_moveBetween_19 : decode cX5_moveBetween 19 = .ok (.ireturn, 1) := by decide +kernel
set_option maxRecDepth 20000 in
theorem ggX5_heard_X5_needCall : GoodIn wsX5_heard wsX5_needCall := goodIn_ca (goodIn_r _ [6, 7, 8] (by decide +kernel) (by decide +kernel)) (goodIn_sub (fun _ h => List.mem_cons_of_mem _ (List.mem_append_right _ h)) (by decide +kernel))
set_option maxRecDepth 20000 in
theorem gX5_heard_X5_needCall : GoodIn wsX5_heard (va_wsS RX5 189 yX5_needCall wsX5_needCall) := goodIn_app (goodIn_of _ (by decide +kernel)) ggX5_heard_X5_needCall
theorem dX5_heard_0 : decode cX5_heard 0 = .ok (.iload_n 1, 1) := by decide +kernel
theorem dX5_heard_1 : decode cX5_heard 1 = .ok (.invokestatic 189, 3) := by decide +kernel
theorem dX5_heard_4 : decode cX5_heard 4 = .ok (.aload_n 0, 1) := by decide +kernel
theorem dX5_heard_5 : decode cX5_heard 5 = .ok (.getfield 12, 3) := by decide +kernel
theorem dX5_heard_8 : decode cX5_heard 8 = .ok (.getfield 192, 3) := by decide +kernel
theorem dX5_heard_11 : decode cX5_heard 11 = .ok (.iload_n 1, 1) := by decide +kernel
theorem dX5_heard_12 : decode cX5_heard 12 = .ok (.iaload, 1) := by decide +kernel
theorem dX5_heard_13 : decode cX5_heard 13 = .ok (.ireturn, 1) := by decide +kernel
set_option maxRecDepth 20000 in
theorem ggX5_won_X5_needPlayer : GoodIn wsX5_won wsX5_needPlayer := goodIn_ca (goodIn_r _ [6, 7, 8] (by decide +kernel) (by decide +kernel)) (goodIn_sub (fun _ h => List.mem_cons_of_mem _ (List.mem_append_right _ h)) (by decide +kernel))
set_option maxRecDepth 20000 in
theorem gX5_won_X5_needPlayer : GoodIn wsX5_won (va_wsS RX5 195 yX5_needPlayer wsX5_needPlayer) := goodIn_app (goodIn_of _ (by decide +kernel)) ggX5_won_X5_needPlayer
set_option maxRecDepth 20000 in
theorem ggX5_won_X3_wonBy : GoodIn wsX5_won wsX3_wonBy := goodIn_r _ [13, 14, 15, 16, 17, 18, 19, 20, 21, 22, 23, 24, 25, 26, 27, 28, 29, 30, 31, 32, 33, 34, 35, 36, 37, 38, 39, 40, 41, 42, 43, 44, 45, 46, 47, 48, 49, 50, 51, 52, 53, 54, 55, 56, 57, 58, 59, 60, 73, 74, 75, 76, 77, 78, 79, 80, 81, 82, 83, 84, 85, 86, 87, 88, 89, 90, 91] (by decide +kernel) (by decide +kernel)
set_option maxRecDepth 20000 in
theorem gX5_won_X3_wonBy : GoodIn wsX5_won (wsV RX5 198 RX3 yX3_wonBy wsX3_wonBy) := goodIn_app (goodIn_of _ (by decide +kernel)) ggX5_won_X3_wonBy
theorem dX5_won_0 : decode cX5_won 0 = .ok (.iload_n 1, 1) := by decide +kernel
theorem dX5_won_1 : decode cX5_won 1 = .ok (.invokestatic 195, 3) := by decide +kernel
theorem dX5_won_4 : decode cX5_won 4 = .ok (.aload_n 0, 1) := by decide +kernel
theorem dX5_won_5 : decode cX5_won 5 = .ok (.getfield 56, 3) := by decide +kernel
theorem dX5_won_8 : decode cX5_won 8 = .ok (.aload_n 0, 1) := by decide +kernel
theorem dX5_won_9 : decode cX5_won 9 = .ok (.getfield 12, 3) := by decide +kernel
theorem dX5_won_12 : decode cX5_won 12 = .ok (.iload_n 1, 1) := by decide +kernel
theorem dX5_won_13 : decode cX5_won 13 = .ok (.invokevirtual 198, 3) := by decide +kernel
theorem dX5_won_16 : decode cX5_won 16 = .ok (.ireturn, 1) := by decide +kernel
set_option maxRecDepth 20000 in
theorem ggX5_wonShare_X5_needPlayer : GoodIn wsX5_wonShare wsX5_needPlayer := goodIn_ca (goodIn_r _ [4, 5, 6] (by decide +kernel) (by decide +kernel)) (goodIn_sub (fun _ h => List.mem_cons_of_mem _ (List.mem_append_right _ h)) (by decide +kernel))
set_option maxRecDepth 20000 in
theorem gX5_wonShare_X5_needPlayer : GoodIn wsX5_wonShare (va_wsS RX5 195 yX5_needPlayer wsX5_needPlayer) := goodIn_app (goodIn_of _ (by decide +kernel)) ggX5_wonShare_X5_needPlayer
set_option maxRecDepth 20000 in
theorem ggX5_wonShare_X5_shareOf : GoodIn wsX5_wonShare wsX5_shareOf := goodIn_r _ [10, 11, 12, 13, 14, 15, 16, 17, 18, 19, 20, 21, 22, 23, 24, 25, 26, 27, 28, 29, 30, 31, 32, 33, 34, 35, 36, 37, 38, 39, 40, 41, 42, 43, 44, 45, 46, 47, 48, 49, 50, 51, 52, 53, 54, 55, 56, 57, 58, 59, 60, 61, 62, 63, 64, 65, 66, 67, 68, 69, 70, 71, 72, 73, 74, 75, 76, 77, 78, 79, 80, 81, 82, 83, 84, 85, 86, 87, 88, 89, 90, 91, 92, 93, 94, 95, 96, 97, 98, 99, 100, 101, 102, 103] (by decide +kernel) (by decide +kernel)
set_option maxRecDepth 20000 in
theorem gX5_wonShare_X5_shareOf : GoodIn wsX5_wonShare (wsV RX5 202 RX5 yX5_shareOf wsX5_shareOf) := goodIn_app (goodIn_of _ (by decide +kernel)) ggX5_wonShare_X5_shareOf
theorem dX5_wonShare_0 : decode cX5_wonShare 0 = .ok (.iload_n 1, 1) := by decide +kernel
theorem dX5_wonShare_1 : decode cX5_wonShare 1 = .ok (.invokestatic 195, 3) := by decide +kernel
theorem dX5_wonShare_4 : decode cX5_wonShare 4 = .ok (.aload_n 0, 1) := by decide +kernel
theorem dX5_wonShare_5 : decode cX5_wonShare 5 = .ok (.iload_n 1, 1) := by decide +kernel
theorem dX5_wonShare_6 : decode cX5_wonShare 6 = .ok (.invokevirtual 202, 3) := by decide +kernel
theorem dX5_wonShare_9 : decode cX5_wonShare 9 = .ok (.freturn, 1) := by decide +kernel
set_option maxRecDepth 20000 in
theorem ggX5_plan_X5_needPlace : GoodIn wsX5_plan wsX5_needPlace := goodIn_ca (goodIn_r _ [8, 9, 10, 2, 11, 12, 13, 14, 15, 16, 96, 97, 98, 99, 100, 101, 102, 103, 104, 105, 106, 107, 113, 114, 115, 116, 117, 118, 119, 120, 121] (by decide +kernel) (by decide +kernel)) (goodIn_sub (fun _ h => List.mem_cons_of_mem _ (List.mem_append_right _ h)) (by decide +kernel))
set_option maxRecDepth 20000 in
theorem gX5_plan_X5_needPlace : GoodIn wsX5_plan (wsV RX5 156 RX5 yX5_needPlace wsX5_needPlace) := goodIn_app (goodIn_of _ (by decide +kernel)) ggX5_plan_X5_needPlace
set_option maxRecDepth 20000 in
theorem ggX5_plan_X3_choose : GoodIn wsX5_plan wsX3_choose := goodIn_r _ [21, 22, 23, 24, 25, 26, 27, 28, 20, 29, 30, 31, 32, 33, 34, 35, 36, 37, 38, 39, 40, 41, 42, 43, 44, 45, 46, 47, 48, 49, 50, 51, 52, 53, 54, 55, 56, 57, 58, 59, 60, 61, 62, 63, 64, 65, 66, 67, 68, 69, 70, 71, 72, 73, 74, 75, 76, 77, 14, 78, 79, 80, 7, 81, 82, 83, 84, 85, 86, 87, 88, 89, 90, 91, 92, 93, 94, 95, 108, 109, 110, 111, 112, 113, 114, 115, 116, 117, 118, 119, 120, 121, 122, 123, 124, 125, 126] (by decide +kernel) (by decide +kernel)
set_option maxRecDepth 20000 in
theorem gX5_plan_X3_choose : GoodIn wsX5_plan (wsV RX5 214 RX3 yX3_choose wsX3_choose) := goodIn_app (goodIn_of _ (by decide +kernel)) ggX5_plan_X3_choose
theorem dX5_plan_0 : decode cX5_plan 0 = .ok (.aload_n 0, 1) := by decide +kernel
theorem dX5_plan_1 : decode cX5_plan 1 = .ok (.iload_n 1, 1) := by decide +kernel
theorem dX5_plan_2 : decode cX5_plan 2 = .ok (.invokevirtual 156, 3) := by decide +kernel
theorem dX5_plan_5 : decode cX5_plan 5 = .ok (.aload_n 0, 1) := by decide +kernel
theorem dX5_plan_6 : decode cX5_plan 6 = .ok (.getfield 56, 3) := by decide +kernel
theorem dX5_plan_9 : decode cX5_plan 9 = .ok (.aload_n 0, 1) := by decide +kernel
theorem dX5_plan_10 : decode cX5_plan 10 = .ok (.getfield 12, 3) := by decide +kernel
theorem dX5_plan_13 : decode cX5_plan 13 = .ok (.invokevirtual 214, 3) := by decide +kernel
theorem dX5_plan_16 : decode cX5_plan 16 = .ok (.aload_n 0, 1) := by decide +kernel
theorem dX5_plan_17 : decode cX5_plan 17 = .ok (.getfield 56, 3) := by decide +kernel
theorem dX5_plan_20 : decode cX5_plan 20 = .ok (.getfield 217, 3) := by decide +kernel
theorem dX5_plan_23 : decode cX5_plan 23 = .ok (.iload_n 1, 1) := by decide +kernel
theorem dX5_plan_24 : decode cX5_plan 24 = .ok (.iaload, 1) := by decide +kernel
theorem dX5_plan_25 : decode cX5_plan 25 = .ok (.ireturn, 1) := by decide +kernel
set_option maxRecDepth 20000 in
theorem ggX5_follow_X5_needPlace : GoodIn wsX5_follow wsX5_needPlace := goodIn_ca (goodIn_r _ [11, 12, 13, 4, 14, 15, 16, 17, 18, 19, 99, 100, 101, 102, 103, 104, 105, 106, 107, 108, 109, 110, 116, 117, 118, 119, 120, 121, 122, 123, 124] (by decide +kernel) (by decide +kernel)) (goodIn_sub (fun _ h => List.mem_cons_of_mem _ (List.mem_append_right _ h)) (by decide +kernel))
set_option maxRecDepth 20000 in
theorem gX5_follow_X5_needPlace : GoodIn wsX5_follow (wsV RX5 156 RX5 yX5_needPlace wsX5_needPlace) := goodIn_app (goodIn_of _ (by decide +kernel)) ggX5_follow_X5_needPlace
set_option maxRecDepth 20000 in
theorem ggX5_follow_X3_choose : GoodIn wsX5_follow wsX3_choose := goodIn_r _ [24, 25, 26, 27, 28, 29, 30, 31, 23, 32, 33, 34, 35, 36, 37, 38, 39, 40, 41, 42, 43, 44, 45, 46, 47, 48, 49, 50, 51, 52, 53, 54, 55, 56, 57, 58, 59, 60, 61, 62, 63, 64, 65, 66, 67, 68, 69, 70, 71, 72, 73, 74, 75, 76, 77, 78, 79, 80, 17, 81, 82, 83, 10, 84, 85, 86, 87, 88, 89, 90, 91, 92, 93, 94, 95, 96, 97, 98, 111, 112, 113, 114, 115, 116, 117, 118, 119, 120, 121, 122, 123, 124, 125, 126, 127, 128, 129] (by decide +kernel) (by decide +kernel)
set_option maxRecDepth 20000 in
theorem gX5_follow_X3_choose : GoodIn wsX5_follow (wsV RX5 214 RX3 yX3_choose wsX3_choose) := goodIn_app (goodIn_of _ (by decide +kernel)) ggX5_follow_X3_choose
theorem dX5_follow_0 : decode cX5_follow 0 = .ok (.aload_n 0, 1) := by decide +kernel
theorem dX5_follow_1 : decode cX5_follow 1 = .ok (.iload_n 1, 1) := by decide +kernel
theorem dX5_follow_2 : decode cX5_follow 2 = .ok (.invokevirtual 156, 3) := by decide +kernel
theorem dX5_follow_5 : decode cX5_follow 5 = .ok (.iload_n 2, 1) := by decide +kernel
theorem dX5_follow_6 : decode cX5_follow 6 = .ok (.ifCond .lt 10, 3) := by decide +kernel
theorem dX5_follow_9 : decode cX5_follow 9 = .ok (.iload_n 2, 1) := by decide +kernel
theorem dX5_follow_10 : decode cX5_follow 10 = .ok (.sipush 1000, 3) := by decide +kernel
theorem dX5_follow_13 : decode cX5_follow 13 = .ok (.if_icmp .le 13, 3) := by decide +kernel
theorem dX5_follow_16 : decode cX5_follow 16 = .ok (.new 92, 3) := by decide +kernel
theorem dX5_follow_19 : decode cX5_follow 19 = .ok (.dup, 1) := by decide +kernel
theorem dX5_follow_20 : decode cX5_follow 20 = .ok (.ldc 220, 2) := by decide +kernel
theorem dX5_follow_22 : decode cX5_follow 22 = .ok (.invokespecial 96, 3) := by decide +kernel
theorem dX5_follow_25 : decode cX5_follow 25 = .ok (.athrow, 1) := by decide +kernel
theorem dX5_follow_26 : decode cX5_follow 26 = .ok (.aload_n 0, 1) := by decide +kernel
theorem dX5_follow_27 : decode cX5_follow 27 = .ok (.getfield 56, 3) := by decide +kernel
theorem dX5_follow_30 : decode cX5_follow 30 = .ok (.aload_n 0, 1) := by decide +kernel
theorem dX5_follow_31 : decode cX5_follow 31 = .ok (.getfield 12, 3) := by decide +kernel
theorem dX5_follow_34 : decode cX5_follow 34 = .ok (.invokevirtual 214, 3) := by decide +kernel
theorem dX5_follow_37 : decode cX5_follow 37 = .ok (.iload_n 1, 1) := by decide +kernel
theorem dX5_follow_38 : decode cX5_follow 38 = .ok (.istore_n 3, 1) := by decide +kernel
theorem dX5_follow_39 : decode cX5_follow 39 = .ok (.iconst 0, 1) := by decide +kernel
theorem dX5_follow_40 : decode cX5_follow 40 = .ok (.istore 4, 2) := by decide +kernel
theorem dX5_follow_42 : decode cX5_follow 42 = .ok (.iload 4, 2) := by decide +kernel
theorem dX5_follow_44 : decode cX5_follow 44 = .ok (.iload_n 2, 1) := by decide +kernel
theorem dX5_follow_45 : decode cX5_follow 45 = .ok (.if_icmp .ge 39, 3) := by decide +kernel
theorem dX5_follow_48 : decode cX5_follow 48 = .ok (.aload_n 0, 1) := by decide +kernel
theorem dX5_follow_49 : decode cX5_follow 49 = .ok (.getfield 56, 3) := by decide +kernel
theorem dX5_follow_52 : decode cX5_follow 52 = .ok (.getfield 217, 3) := by decide +kernel
theorem dX5_follow_55 : decode cX5_follow 55 = .ok (.iload_n 3, 1) := by decide +kernel
theorem dX5_follow_56 : decode cX5_follow 56 = .ok (.iaload, 1) := by decide +kernel
theorem dX5_follow_57 : decode cX5_follow 57 = .ok (.istore 5, 2) := by decide +kernel
theorem dX5_follow_59 : decode cX5_follow 59 = .ok (.iload 5, 2) := by decide +kernel
theorem dX5_follow_61 : decode cX5_follow 61 = .ok (.iconst (-1), 1) := by decide +kernel
theorem dX5_follow_62 : decode cX5_follow 62 = .ok (.if_icmp .ne 5, 3) := by decide +kernel
theorem dX5_follow_65 : decode cX5_follow 65 = .ok (.iconst (-1), 1) := by decide +kernel
theorem dX5_follow_66 : decode cX5_follow 66 = .ok (.ireturn, 1) := by decide +kernel
theorem dX5_follow_67 : decode cX5_follow 67 = .ok (.aload_n 0, 1) := by decide +kernel
theorem dX5_follow_68 : decode cX5_follow 68 = .ok (.getfield 12, 3) := by decide +kernel
theorem dX5_follow_71 : decode cX5_follow 71 = .ok (.getfield 182, 3) := by decide +kernel
theorem dX5_follow_74 : decode cX5_follow 74 = .ok (.iload 5, 2) := by decide +kernel
theorem dX5_follow_76 : decode cX5_follow 76 = .ok (.iaload, 1) := by decide +kernel
theorem dX5_follow_77 : decode cX5_follow 77 = .ok (.istore_n 3, 1) := by decide +kernel
theorem dX5_follow_78 : decode cX5_follow 78 = .ok (.iinc 4 1, 3) := by decide +kernel
theorem dX5_follow_81 : decode cX5_follow 81 = .ok (.goto (-39), 3) := by decide +kernel
theorem dX5_follow_84 : decode cX5_follow 84 = .ok (.iload_n 3, 1) := by decide +kernel
theorem dX5_follow_85 : decode cX5_follow 85 = .ok (.ireturn, 1) := by decide +kernel
set_option maxRecDepth 20000 in
theorem ggX5_play_X5_needPlace : GoodIn wsX5_play wsX5_needPlace := goodIn_ca (goodIn_r _ [11, 12, 13, 4, 14, 15, 16, 17, 18, 19, 118, 119, 120, 121, 122, 123, 124, 125, 126, 127, 128, 129, 135, 136, 137, 138, 139, 140, 141, 142, 143] (by decide +kernel) (by decide +kernel)) (goodIn_sub (fun _ h => List.mem_cons_of_mem _ (List.mem_append_right _ h)) (by decide +kernel))
set_option maxRecDepth 20000 in
theorem gX5_play_X5_needPlace : GoodIn wsX5_play (wsV RX5 156 RX5 yX5_needPlace wsX5_needPlace) := goodIn_app (goodIn_of _ (by decide +kernel)) ggX5_play_X5_needPlace
set_option maxRecDepth 20000 in
theorem ggX5_play_X3_choose : GoodIn wsX5_play wsX3_choose := goodIn_r _ [24, 25, 26, 27, 28, 29, 30, 31, 23, 32, 33, 34, 35, 36, 37, 38, 39, 40, 41, 42, 43, 44, 45, 46, 47, 48, 49, 50, 51, 52, 53, 54, 55, 56, 57, 58, 59, 60, 61, 62, 63, 64, 65, 66, 67, 68, 69, 70, 71, 72, 73, 74, 75, 76, 77, 78, 79, 80, 17, 81, 82, 83, 10, 84, 85, 86, 87, 88, 89, 90, 91, 92, 93, 94, 95, 96, 97, 98, 130, 131, 132, 133, 134, 135, 136, 137, 138, 139, 140, 141, 142, 143, 144, 145, 146, 147, 148] (by decide +kernel) (by decide +kernel)
set_option maxRecDepth 20000 in
theorem gX5_play_X3_choose : GoodIn wsX5_play (wsV RX5 214 RX3 yX3_choose wsX3_choose) := goodIn_app (goodIn_of _ (by decide +kernel)) ggX5_play_X3_choose
set_option maxRecDepth 20000 in
theorem ggX5_play_X5_lastOfPlay : GoodIn wsX5_play wsX5_lastOfPlay := goodIn_r _ [102, 6, 3, 5, 4, 103, 118, 119, 120, 121, 122, 123, 124, 125, 126, 127, 128, 129, 130, 131, 132, 133, 134, 135, 136, 137, 138, 139, 140, 141, 142, 143] (by decide +kernel) (by decide +kernel)
set_option maxRecDepth 20000 in
theorem gX5_play_X5_lastOfPlay : GoodIn wsX5_play (wsV RX5 222 RX5 yX5_lastOfPlay wsX5_lastOfPlay) := goodIn_app (goodIn_of _ (by decide +kernel)) ggX5_play_X5_lastOfPlay
set_option maxRecDepth 20000 in
theorem ggX5_play_X5_greatestCallSince : GoodIn wsX5_play wsX5_greatestCallSince := goodIn_r _ [107, 4, 108, 6, 109, 110, 111, 112, 113, 118, 119, 120, 121, 122, 123, 124, 125, 126, 127, 128, 129, 135, 136, 137, 138, 139, 140, 141, 142, 143] (by decide +kernel) (by decide +kernel)
set_option maxRecDepth 20000 in
theorem gX5_play_X5_greatestCallSince : GoodIn wsX5_play (wsV RX5 225 RX5 yX5_greatestCallSince wsX5_greatestCallSince) := goodIn_app (goodIn_of _ (by decide +kernel)) ggX5_play_X5_greatestCallSince
set_option maxRecDepth 20000 in
theorem ggX5_play_X5_placesSeen : GoodIn wsX5_play wsX5_placesSeen := goodIn_r _ [117, 4, 108, 6, 118, 119, 120, 121, 122, 123, 124, 125, 126, 127, 128, 129, 135, 136, 137, 138, 139, 140, 141, 142, 143] (by decide +kernel) (by decide +kernel)
set_option maxRecDepth 20000 in
theorem gX5_play_X5_placesSeen : GoodIn wsX5_play (wsV RX5 228 RX5 yX5_placesSeen wsX5_placesSeen) := goodIn_app (goodIn_of _ (by decide +kernel)) ggX5_play_X5_placesSeen
theorem dX5_play_0 : decode cX5_play 0 = .ok (.aload_n 0, 1) := by decide +kernel
theorem dX5_play_1 : decode cX5_play 1 = .ok (.iload_n 1, 1) := by decide +kernel
theorem dX5_play_2 : decode cX5_play 2 = .ok (.invokevirtual 156, 3) := by decide +kernel
theorem dX5_play_5 : decode cX5_play 5 = .ok (.iload_n 2, 1) := by decide +kernel
theorem dX5_play_6 : decode cX5_play 6 = .ok (.ifCond .lt 8, 3) := by decide +kernel
theorem dX5_play_9 : decode cX5_play 9 = .ok (.iload_n 2, 1) := by decide +kernel
theorem dX5_play_10 : decode cX5_play 10 = .ok (.iconst 2, 1) := by decide +kernel
theorem dX5_play_11 : decode cX5_play 11 = .ok (.if_icmp .le 13, 3) := by decide +kernel
theorem dX5_play_14 : decode cX5_play 14 = .ok (.new 92, 3) := by decide +kernel
theorem dX5_play_17 : decode cX5_play 17 = .ok (.dup, 1) := by decide +kernel
theorem dX5_play_18 : decode cX5_play 18 = .ok (.ldc 154, 2) := by decide +kernel
theorem dX5_play_20 : decode cX5_play 20 = .ok (.invokespecial 96, 3) := by decide +kernel
theorem dX5_play_23 : decode cX5_play 23 = .ok (.athrow, 1) := by decide +kernel
theorem dX5_play_24 : decode cX5_play 24 = .ok (.aload_n 0, 1) := by decide +kernel
theorem dX5_play_25 : decode cX5_play 25 = .ok (.getfield 56, 3) := by decide +kernel
theorem dX5_play_28 : decode cX5_play 28 = .ok (.aload_n 0, 1) := by decide +kernel
theorem dX5_play_29 : decode cX5_play 29 = .ok (.getfield 12, 3) := by decide +kernel
theorem dX5_play_32 : decode cX5_play 32 = .ok (.invokevirtual 214, 3) := by decide +kernel
theorem dX5_play_35 : decode cX5_play 35 = .ok (.aload_n 0, 1) := by decide +kernel
theorem dX5_play_36 : decode cX5_play 36 = .ok (.iload_n 1, 1) := by decide +kernel
theorem dX5_play_37 : decode cX5_play 37 = .ok (.invokevirtual 222, 3) := by decide +kernel
theorem dX5_play_40 : decode cX5_play 40 = .ok (.istore_n 3, 1) := by decide +kernel
theorem dX5_play_41 : decode cX5_play 41 = .ok (.aload_n 0, 1) := by decide +kernel
theorem dX5_play_42 : decode cX5_play 42 = .ok (.getfield 56, 3) := by decide +kernel
theorem dX5_play_45 : decode cX5_play 45 = .ok (.getfield 217, 3) := by decide +kernel
theorem dX5_play_48 : decode cX5_play 48 = .ok (.iload_n 3, 1) := by decide +kernel
theorem dX5_play_49 : decode cX5_play 49 = .ok (.iaload, 1) := by decide +kernel
theorem dX5_play_50 : decode cX5_play 50 = .ok (.iconst (-1), 1) := by decide +kernel
theorem dX5_play_51 : decode cX5_play 51 = .ok (.if_icmp .ne 7, 3) := by decide +kernel
theorem dX5_play_54 : decode cX5_play 54 = .ok (.iconst 1, 1) := by decide +kernel
theorem dX5_play_55 : decode cX5_play 55 = .ok (.goto 4, 3) := by decide +kernel
theorem dX5_play_58 : decode cX5_play 58 = .ok (.iconst 0, 1) := by decide +kernel
theorem dX5_play_59 : decode cX5_play 59 = .ok (.istore 4, 2) := by decide +kernel
theorem dX5_play_61 : decode cX5_play 61 = .ok (.iload_n 2, 1) := by decide +kernel
theorem dX5_play_62 : decode cX5_play 62 = .ok (.iconst 2, 1) := by decide +kernel
theorem dX5_play_63 : decode cX5_play 63 = .ok (.if_icmp .ne 23, 3) := by decide +kernel
theorem dX5_play_66 : decode cX5_play 66 = .ok (.iload 4, 2) := by decide +kernel
theorem dX5_play_68 : decode cX5_play 68 = .ok (.ifCond .eq 7, 3) := by decide +kernel
theorem dX5_play_71 : decode cX5_play 71 = .ok (.iconst (-1), 1) := by decide +kernel
theorem dX5_play_72 : decode cX5_play 72 = .ok (.goto 13, 3) := by decide +kernel
theorem dX5_play_75 : decode cX5_play 75 = .ok (.aload_n 0, 1) := by decide +kernel
theorem dX5_play_76 : decode cX5_play 76 = .ok (.aload_n 0, 1) := by decide +kernel
theorem dX5_play_77 : decode cX5_play 77 = .ok (.getfield 60, 3) := by decide +kernel
theorem dX5_play_80 : decode cX5_play 80 = .ok (.iload_n 3, 1) := by decide +kernel
theorem dX5_play_81 : decode cX5_play 81 = .ok (.iaload, 1) := by decide +kernel
theorem dX5_play_82 : decode cX5_play 82 = .ok (.invokevirtual 225, 3) := by decide +kernel
theorem dX5_play_85 : decode cX5_play 85 = .ok (.ireturn, 1) := by decide +kernel
theorem dX5_play_86 : decode cX5_play 86 = .ok (.aload_n 0, 1) := by decide +kernel
theorem dX5_play_87 : decode cX5_play 87 = .ok (.invokevirtual 228, 3) := by decide +kernel
theorem dX5_play_90 : decode cX5_play 90 = .ok (.istore 5, 2) := by decide +kernel
theorem dX5_play_92 : decode cX5_play 92 = .ok (.iload 4, 2) := by decide +kernel
theorem dX5_play_94 : decode cX5_play 94 = .ok (.ifCond .eq 14, 3) := by decide +kernel
theorem dX5_play_97 : decode cX5_play 97 = .ok (.iload_n 2, 1) := by decide +kernel
theorem dX5_play_98 : decode cX5_play 98 = .ok (.ifCond .ne 8, 3) := by decide +kernel
theorem dX5_play_101 : decode cX5_play 101 = .ok (.iload 5, 2) := by decide +kernel
theorem dX5_play_103 : decode cX5_play 103 = .ok (.goto 4, 3) := by decide +kernel
theorem dX5_play_106 : decode cX5_play 106 = .ok (.iconst 0, 1) := by decide +kernel
theorem dX5_play_107 : decode cX5_play 107 = .ok (.ireturn, 1) := by decide +kernel
theorem dX5_play_108 : decode cX5_play 108 = .ok (.iload_n 2, 1) := by decide +kernel
theorem dX5_play_109 : decode cX5_play 109 = .ok (.ifCond .ne 12, 3) := by decide +kernel
theorem dX5_play_112 : decode cX5_play 112 = .ok (.aload_n 0, 1) := by decide +kernel
theorem dX5_play_113 : decode cX5_play 113 = .ok (.getfield 60, 3) := by decide +kernel
theorem dX5_play_116 : decode cX5_play 116 = .ok (.iload_n 3, 1) := by decide +kernel
theorem dX5_play_117 : decode cX5_play 117 = .ok (.iaload, 1) := by decide +kernel
theorem dX5_play_118 : decode cX5_play 118 = .ok (.goto 12, 3) := by decide +kernel
theorem dX5_play_121 : decode cX5_play 121 = .ok (.iload 5, 2) := by decide +kernel
theorem dX5_play_123 : decode cX5_play 123 = .ok (.aload_n 0, 1) := by decide +kernel
theorem dX5_play_124 : decode cX5_play 124 = .ok (.getfield 60, 3) := by decide +kernel
theorem dX5_play_127 : decode cX5_play 127 = .ok (.iload_n 3, 1) := by decide +kernel
theorem dX5_play_128 : decode cX5_play 128 = .ok (.iaload, 1) := by decide +kernel
theorem dX5_play_129 : decode cX5_play 129 = .ok (.isub, 1) := by decide +kernel
theorem dX5_play_130 : decode cX5_play 130 = .ok (.ireturn, 1) := by decide +kernel
set_option maxRecDepth 20000 in
theorem ggX5_pull_X5_needPlayer : GoodIn wsX5_pull wsX5_needPlayer := goodIn_ca (goodIn_r _ [7, 8, 9] (by decide +kernel) (by decide +kernel)) (goodIn_sub (fun _ h => List.mem_cons_of_mem _ (List.mem_append_right _ h)) (by decide +kernel))
set_option maxRecDepth 20000 in
theorem gX5_pull_X5_needPlayer : GoodIn wsX5_pull (va_wsS RX5 195 yX5_needPlayer wsX5_needPlayer) := goodIn_app (goodIn_of _ (by decide +kernel)) ggX5_pull_X5_needPlayer
set_option maxRecDepth 20000 in
theorem ggX5_pull_X5_needSet : GoodIn wsX5_pull wsX5_needSet := goodIn_ca (goodIn_r _ [13, 8, 9, 2, 14, 43, 44, 45, 46, 47, 48, 49, 50, 51, 52, 53, 54, 60, 61, 62, 63, 64, 65, 66, 67, 68] (by decide +kernel) (by decide +kernel)) (goodIn_sub (fun _ h => List.mem_cons_of_mem _ (List.mem_append_right _ h)) (by decide +kernel))
set_option maxRecDepth 20000 in
theorem gX5_pull_X5_needSet : GoodIn wsX5_pull (wsV RX5 231 RX5 yX5_needSet wsX5_needSet) := goodIn_app (goodIn_of _ (by decide +kernel)) ggX5_pull_X5_needSet
set_option maxRecDepth 20000 in
theorem ggX5_pull_X0_take : GoodIn wsX5_pull wsX0_take := goodIn_r _ [19, 20, 21, 22, 23, 24, 25, 26, 27, 28, 29, 30, 31, 32, 33, 18, 34, 60, 61, 62, 63, 64, 65, 66, 67, 68, 55, 56, 57, 58, 59] (by decide +kernel) (by decide +kernel)
set_option maxRecDepth 20000 in
theorem gX5_pull_X0_take : GoodIn wsX5_pull (wsV RX5 135 RX0 yX0_take wsX0_take) := goodIn_app (goodIn_of _ (by decide +kernel)) ggX5_pull_X0_take
set_option maxRecDepth 20000 in
theorem ggX5_pull_X0_attract : GoodIn wsX5_pull wsX0_attract := goodIn_r _ [38, 39, 40, 41, 18, 42, 21, 27, 23, 55, 56, 57, 58, 59] (by decide +kernel) (by decide +kernel)
set_option maxRecDepth 20000 in
theorem gX5_pull_X0_attract : GoodIn wsX5_pull (wsV RX5 237 RX0 yX0_attract wsX0_attract) := goodIn_app (goodIn_of _ (by decide +kernel)) ggX5_pull_X0_attract
theorem dX5_pull_0 : decode cX5_pull 0 = .ok (.iload_n 1, 1) := by decide +kernel
theorem dX5_pull_1 : decode cX5_pull 1 = .ok (.invokestatic 195, 3) := by decide +kernel
theorem dX5_pull_4 : decode cX5_pull 4 = .ok (.aload_n 0, 1) := by decide +kernel
theorem dX5_pull_5 : decode cX5_pull 5 = .ok (.iload_n 2, 1) := by decide +kernel
theorem dX5_pull_6 : decode cX5_pull 6 = .ok (.invokevirtual 231, 3) := by decide +kernel
theorem dX5_pull_9 : decode cX5_pull 9 = .ok (.aload_n 0, 1) := by decide +kernel
theorem dX5_pull_10 : decode cX5_pull 10 = .ok (.getfield 47, 3) := by decide +kernel
theorem dX5_pull_13 : decode cX5_pull 13 = .ok (.aload_n 0, 1) := by decide +kernel
theorem dX5_pull_14 : decode cX5_pull 14 = .ok (.getfield 12, 3) := by decide +kernel
theorem dX5_pull_17 : decode cX5_pull 17 = .ok (.invokevirtual 135, 3) := by decide +kernel
theorem dX5_pull_20 : decode cX5_pull 20 = .ok (.aload_n 0, 1) := by decide +kernel
theorem dX5_pull_21 : decode cX5_pull 21 = .ok (.getfield 47, 3) := by decide +kernel
theorem dX5_pull_24 : decode cX5_pull 24 = .ok (.iload_n 1, 1) := by decide +kernel
theorem dX5_pull_25 : decode cX5_pull 25 = .ok (.iload_n 2, 1) := by decide +kernel
theorem dX5_pull_26 : decode cX5_pull 26 = .ok (.aload_n 0, 1) := by decide +kernel
theorem dX5_pull_27 : decode cX5_pull 27 = .ok (.getfield 47, 3) := by decide +kernel
theorem dX5_pull_30 : decode cX5_pull 30 = .ok (.getfield 234, 3) := by decide +kernel
theorem dX5_pull_33 : decode cX5_pull 33 = .ok (.invokevirtual 237, 3) := by decide +kernel
theorem dX5_pull_36 : decode cX5_pull 36 = .ok (.ireturn, 1) := by decide +kernel
set_option maxRecDepth 20000 in
theorem ggX5_pullIn_X5_needPlace : GoodIn wsX5_pullIn wsX5_needPlace := goodIn_ca (goodIn_r _ [7, 8, 9, 2, 10, 11, 12, 13, 14, 15, 56, 57, 58, 59, 60, 61, 62, 63, 64, 65, 66, 67, 68, 69, 70, 71, 72, 73, 74, 75, 76] (by decide +kernel) (by decide +kernel)) (goodIn_sub (fun _ h => List.mem_cons_of_mem _ (List.mem_append_left _ (List.mem_append_right _ h))) (by decide +kernel))
set_option maxRecDepth 20000 in
theorem gX5_pullIn_X5_needPlace : GoodIn wsX5_pullIn (wsV RX5 156 RX5 yX5_needPlace wsX5_needPlace) := goodIn_app (goodIn_of _ (by decide +kernel)) ggX5_pullIn_X5_needPlace
set_option maxRecDepth 20000 in
theorem ggX5_pullIn_X5_needPlayer : GoodIn wsX5_pullIn wsX5_needPlayer := goodIn_ca (goodIn_r _ [18, 19, 20] (by decide +kernel) (by decide +kernel)) (goodIn_sub (fun _ h => List.mem_cons_of_mem _ (List.mem_append_right _ h)) (by decide +kernel))
set_option maxRecDepth 20000 in
theorem gX5_pullIn_X5_needPlayer : GoodIn wsX5_pullIn (va_wsS RX5 195 yX5_needPlayer wsX5_needPlayer) := goodIn_app (goodIn_of _ (by decide +kernel)) ggX5_pullIn_X5_needPlayer
set_option maxRecDepth 20000 in
theorem ggX5_pullIn_X5_needSet : GoodIn wsX5_pullIn wsX5_needSet := goodIn_ca (goodIn_r _ [24, 19, 20, 2, 25, 56, 57, 58, 59, 60, 61, 62, 63, 64, 65, 66, 67, 68, 69, 70, 71, 72, 73, 74, 75, 76] (by decide +kernel) (by decide +kernel)) (goodIn_sub (fun _ h => List.mem_cons_of_mem _ (List.mem_append_right _ h)) (by decide +kernel))
set_option maxRecDepth 20000 in
theorem gX5_pullIn_X5_needSet : GoodIn wsX5_pullIn (wsV RX5 231 RX5 yX5_needSet wsX5_needSet) := goodIn_app (goodIn_of _ (by decide +kernel)) ggX5_pullIn_X5_needSet
set_option maxRecDepth 20000 in
theorem ggX5_pullIn_X0_take : GoodIn wsX5_pullIn wsX0_take := goodIn_r _ [30, 31, 32, 33, 34, 35, 36, 37, 38, 39, 40, 41, 42, 43, 44, 29, 45, 68, 69, 70, 71, 72, 73, 74, 75, 76, 77, 78, 79, 80, 81] (by decide +kernel) (by decide +kernel)
set_option maxRecDepth 20000 in
theorem gX5_pullIn_X0_take : GoodIn wsX5_pullIn (wsV RX5 135 RX0 yX0_take wsX0_take) := goodIn_app (goodIn_of _ (by decide +kernel)) ggX5_pullIn_X0_take
set_option maxRecDepth 20000 in
theorem ggX5_pullIn_X0_distance : GoodIn wsX5_pullIn wsX0_distance := goodIn_r _ [49, 33, 50, 6, 51, 52, 53, 54, 29, 55, 32, 38, 34, 77, 78, 79, 80, 81] (by decide +kernel) (by decide +kernel)
set_option maxRecDepth 20000 in
theorem gX5_pullIn_X0_distance : GoodIn wsX5_pullIn (wsV RX5 241 RX0 yX0_distance wsX0_distance) := goodIn_app (goodIn_of _ (by decide +kernel)) ggX5_pullIn_X0_distance
theorem dX5_pullIn_0 : decode cX5_pullIn 0 = .ok (.aload_n 0, 1) := by decide +kernel
theorem dX5_pullIn_1 : decode cX5_pullIn 1 = .ok (.iload_n 1, 1) := by decide +kernel
theorem dX5_pullIn_2 : decode cX5_pullIn 2 = .ok (.invokevirtual 156, 3) := by decide +kernel
theorem dX5_pullIn_5 : decode cX5_pullIn 5 = .ok (.iload_n 2, 1) := by decide +kernel
theorem dX5_pullIn_6 : decode cX5_pullIn 6 = .ok (.invokestatic 195, 3) := by decide +kernel
theorem dX5_pullIn_9 : decode cX5_pullIn 9 = .ok (.aload_n 0, 1) := by decide +kernel
theorem dX5_pullIn_10 : decode cX5_pullIn 10 = .ok (.iload_n 3, 1) := by decide +kernel
theorem dX5_pullIn_11 : decode cX5_pullIn 11 = .ok (.invokevirtual 231, 3) := by decide +kernel
theorem dX5_pullIn_14 : decode cX5_pullIn 14 = .ok (.aload_n 0, 1) := by decide +kernel
theorem dX5_pullIn_15 : decode cX5_pullIn 15 = .ok (.getfield 47, 3) := by decide +kernel
theorem dX5_pullIn_18 : decode cX5_pullIn 18 = .ok (.aload_n 0, 1) := by decide +kernel
theorem dX5_pullIn_19 : decode cX5_pullIn 19 = .ok (.getfield 12, 3) := by decide +kernel
theorem dX5_pullIn_22 : decode cX5_pullIn 22 = .ok (.invokevirtual 135, 3) := by decide +kernel
theorem dX5_pullIn_25 : decode cX5_pullIn 25 = .ok (.aload_n 0, 1) := by decide +kernel
theorem dX5_pullIn_26 : decode cX5_pullIn 26 = .ok (.getfield 47, 3) := by decide +kernel
theorem dX5_pullIn_29 : decode cX5_pullIn 29 = .ok (.iload_n 1, 1) := by decide +kernel
theorem dX5_pullIn_30 : decode cX5_pullIn 30 = .ok (.iload_n 2, 1) := by decide +kernel
theorem dX5_pullIn_31 : decode cX5_pullIn 31 = .ok (.iload_n 3, 1) := by decide +kernel
theorem dX5_pullIn_32 : decode cX5_pullIn 32 = .ok (.invokevirtual 241, 3) := by decide +kernel
theorem dX5_pullIn_35 : decode cX5_pullIn 35 = .ok (.ireturn, 1) := by decide +kernel
set_option maxRecDepth 20000 in
theorem ggX5_stay_X5_needPlayer : GoodIn wsX5_stay wsX5_needPlayer := goodIn_ca (goodIn_r _ [6, 7, 8] (by decide +kernel) (by decide +kernel)) (goodIn_sub (fun _ h => List.mem_cons_of_mem _ (List.mem_append_right _ h)) (by decide +kernel))
set_option maxRecDepth 20000 in
theorem gX5_stay_X5_needPlayer : GoodIn wsX5_stay (va_wsS RX5 195 yX5_needPlayer wsX5_needPlayer) := goodIn_app (goodIn_of _ (by decide +kernel)) ggX5_stay_X5_needPlayer
set_option maxRecDepth 20000 in
theorem ggX5_stay_X5_needSet : GoodIn wsX5_stay wsX5_needSet := goodIn_ca (goodIn_r _ [12, 7, 8, 2, 13, 46, 47, 48, 49, 50, 51, 52, 53, 54, 55, 56, 57, 58, 59, 60, 61, 62, 63, 64, 65, 66] (by decide +kernel) (by decide +kernel)) (goodIn_sub (fun _ h => List.mem_cons_of_mem _ (List.mem_append_right _ h)) (by decide +kernel))
set_option maxRecDepth 20000 in
theorem gX5_stay_X5_needSet : GoodIn wsX5_stay (wsV RX5 231 RX5 yX5_needSet wsX5_needSet) := goodIn_app (goodIn_of _ (by decide +kernel)) ggX5_stay_X5_needSet
set_option maxRecDepth 20000 in
theorem ggX5_stay_X0_take : GoodIn wsX5_stay wsX0_take := goodIn_r _ [18, 19, 20, 21, 22, 23, 24, 25, 26, 27, 28, 29, 30, 31, 32, 17, 33, 58, 59, 60, 61, 62, 63, 64, 65, 66, 67, 68, 69, 70, 71] (by decide +kernel) (by decide +kernel)
set_option maxRecDepth 20000 in
theorem gX5_stay_X0_take : GoodIn wsX5_stay (wsV RX5 135 RX0 yX0_take wsX0_take) := goodIn_app (goodIn_of _ (by decide +kernel)) ggX5_stay_X0_take
set_option maxRecDepth 20000 in
theorem ggX5_stay_X0_stayingIn : GoodIn wsX5_stay wsX0_stayingIn := goodIn_r _ [37, 21, 38, 39, 40, 17, 41, 20, 26, 42, 43, 44, 45, 22, 67, 68, 69, 70, 71] (by decide +kernel) (by decide +kernel)
set_option maxRecDepth 20000 in
theorem gX5_stay_X0_stayingIn : GoodIn wsX5_stay (wsV RX5 244 RX0 yX0_stayingIn wsX0_stayingIn) := goodIn_app (goodIn_of _ (by decide +kernel)) ggX5_stay_X0_stayingIn
theorem dX5_stay_0 : decode cX5_stay 0 = .ok (.iload_n 1, 1) := by decide +kernel
theorem dX5_stay_1 : decode cX5_stay 1 = .ok (.invokestatic 195, 3) := by decide +kernel
theorem dX5_stay_4 : decode cX5_stay 4 = .ok (.aload_n 0, 1) := by decide +kernel
theorem dX5_stay_5 : decode cX5_stay 5 = .ok (.iload_n 2, 1) := by decide +kernel
theorem dX5_stay_6 : decode cX5_stay 6 = .ok (.invokevirtual 231, 3) := by decide +kernel
theorem dX5_stay_9 : decode cX5_stay 9 = .ok (.aload_n 0, 1) := by decide +kernel
theorem dX5_stay_10 : decode cX5_stay 10 = .ok (.getfield 47, 3) := by decide +kernel
theorem dX5_stay_13 : decode cX5_stay 13 = .ok (.aload_n 0, 1) := by decide +kernel
theorem dX5_stay_14 : decode cX5_stay 14 = .ok (.getfield 12, 3) := by decide +kernel
theorem dX5_stay_17 : decode cX5_stay 17 = .ok (.invokevirtual 135, 3) := by decide +kernel
theorem dX5_stay_20 : decode cX5_stay 20 = .ok (.aload_n 0, 1) := by decide +kernel
theorem dX5_stay_21 : decode cX5_stay 21 = .ok (.getfield 47, 3) := by decide +kernel
theorem dX5_stay_24 : decode cX5_stay 24 = .ok (.iload_n 1, 1) := by decide +kernel
theorem dX5_stay_25 : decode cX5_stay 25 = .ok (.iload_n 2, 1) := by decide +kernel
theorem dX5_stay_26 : decode cX5_stay 26 = .ok (.invokevirtual 244, 3) := by decide +kernel
theorem dX5_stay_29 : decode cX5_stay 29 = .ok (.ireturn, 1) := by decide +kernel
set_option maxRecDepth 20000 in
theorem ggX5_comeBack_X5_needPlayer : GoodIn wsX5_comeBack wsX5_needPlayer := goodIn_ca (goodIn_r _ [6, 7, 8] (by decide +kernel) (by decide +kernel)) (goodIn_sub (fun _ h => List.mem_cons_of_mem _ (List.mem_append_right _ h)) (by decide +kernel))
set_option maxRecDepth 20000 in
theorem gX5_comeBack_X5_needPlayer : GoodIn wsX5_comeBack (va_wsS RX5 195 yX5_needPlayer wsX5_needPlayer) := goodIn_app (goodIn_of _ (by decide +kernel)) ggX5_comeBack_X5_needPlayer
set_option maxRecDepth 20000 in
theorem ggX5_comeBack_X5_needSet : GoodIn wsX5_comeBack wsX5_needSet := goodIn_ca (goodIn_r _ [12, 7, 8, 2, 13, 46, 47, 48, 49, 50, 51, 52, 53, 54, 55, 56, 57, 58, 59, 60, 61, 62, 63, 64, 65, 66] (by decide +kernel) (by decide +kernel)) (goodIn_sub (fun _ h => List.mem_cons_of_mem _ (List.mem_append_right _ h)) (by decide +kernel))
set_option maxRecDepth 20000 in
theorem gX5_comeBack_X5_needSet : GoodIn wsX5_comeBack (wsV RX5 231 RX5 yX5_needSet wsX5_needSet) := goodIn_app (goodIn_of _ (by decide +kernel)) ggX5_comeBack_X5_needSet
set_option maxRecDepth 20000 in
theorem ggX5_comeBack_X0_take : GoodIn wsX5_comeBack wsX0_take := goodIn_r _ [18, 19, 20, 21, 22, 23, 24, 25, 26, 27, 28, 29, 30, 31, 32, 17, 33, 58, 59, 60, 61, 62, 63, 64, 65, 66, 67, 68, 69, 70, 71] (by decide +kernel) (by decide +kernel)
set_option maxRecDepth 20000 in
theorem gX5_comeBack_X0_take : GoodIn wsX5_comeBack (wsV RX5 135 RX0 yX0_take wsX0_take) := goodIn_app (goodIn_of _ (by decide +kernel)) ggX5_comeBack_X0_take
set_option maxRecDepth 20000 in
theorem ggX5_comeBack_X0_comingBackTo : GoodIn wsX5_comeBack wsX0_comingBackTo := goodIn_r _ [37, 21, 38, 39, 40, 17, 41, 20, 26, 22, 42, 43, 44, 45, 67, 68, 69, 70, 71] (by decide +kernel) (by decide +kernel)
set_option maxRecDepth 20000 in
theorem gX5_comeBack_X0_comingBackTo : GoodIn wsX5_comeBack (wsV RX5 247 RX0 yX0_comingBackTo wsX0_comingBackTo) := goodIn_app (goodIn_of _ (by decide +kernel)) ggX5_comeBack_X0_comingBackTo
theorem dX5_comeBack_0 : decode cX5_comeBack 0 = .ok (.iload_n 1, 1) := by decide +kernel
theorem dX5_comeBack_1 : decode cX5_comeBack 1 = .ok (.invokestatic 195, 3) := by decide +kernel
theorem dX5_comeBack_4 : decode cX5_comeBack 4 = .ok (.aload_n 0, 1) := by decide +kernel
theorem dX5_comeBack_5 : decode cX5_comeBack 5 = .ok (.iload_n 2, 1) := by decide +kernel
theorem dX5_comeBack_6 : decode cX5_comeBack 6 = .ok (.invokevirtual 231, 3) := by decide +kernel
theorem dX5_comeBack_9 : decode cX5_comeBack 9 = .ok (.aload_n 0, 1) := by decide +kernel
theorem dX5_comeBack_10 : decode cX5_comeBack 10 = .ok (.getfield 47, 3) := by decide +kernel
theorem dX5_comeBack_13 : decode cX5_comeBack 13 = .ok (.aload_n 0, 1) := by decide +kernel
theorem dX5_comeBack_14 : decode cX5_comeBack 14 = .ok (.getfield 12, 3) := by decide +kernel
theorem dX5_comeBack_17 : decode cX5_comeBack 17 = .ok (.invokevirtual 135, 3) := by decide +kernel
theorem dX5_comeBack_20 : decode cX5_comeBack 20 = .ok (.aload_n 0, 1) := by decide +kernel
theorem dX5_comeBack_21 : decode cX5_comeBack 21 = .ok (.getfield 47, 3) := by decide +kernel
theorem dX5_comeBack_24 : decode cX5_comeBack 24 = .ok (.iload_n 1, 1) := by decide +kernel
theorem dX5_comeBack_25 : decode cX5_comeBack 25 = .ok (.iload_n 2, 1) := by decide +kernel
theorem dX5_comeBack_26 : decode cX5_comeBack 26 = .ok (.invokevirtual 247, 3) := by decide +kernel
theorem dX5_comeBack_29 : decode cX5_comeBack 29 = .ok (.ireturn, 1) := by decide +kernel
set_option maxRecDepth 20000 in
theorem ggX5_isTrap_X5_needPlayer : GoodIn wsX5_isTrap wsX5_needPlayer := goodIn_ca (goodIn_r _ [6, 7, 8] (by decide +kernel) (by decide +kernel)) (goodIn_sub (fun _ h => List.mem_cons_of_mem _ (List.mem_append_right _ h)) (by decide +kernel))
set_option maxRecDepth 20000 in
theorem gX5_isTrap_X5_needPlayer : GoodIn wsX5_isTrap (va_wsS RX5 195 yX5_needPlayer wsX5_needPlayer) := goodIn_app (goodIn_of _ (by decide +kernel)) ggX5_isTrap_X5_needPlayer
set_option maxRecDepth 20000 in
theorem ggX5_isTrap_X5_needSet : GoodIn wsX5_isTrap wsX5_needSet := goodIn_ca (goodIn_r _ [12, 7, 8, 2, 13, 46, 47, 48, 49, 50, 51, 52, 53, 54, 55, 56, 57, 58, 59, 60, 61, 62, 63, 64, 65, 66] (by decide +kernel) (by decide +kernel)) (goodIn_sub (fun _ h => List.mem_cons_of_mem _ (List.mem_append_right _ h)) (by decide +kernel))
set_option maxRecDepth 20000 in
theorem gX5_isTrap_X5_needSet : GoodIn wsX5_isTrap (wsV RX5 231 RX5 yX5_needSet wsX5_needSet) := goodIn_app (goodIn_of _ (by decide +kernel)) ggX5_isTrap_X5_needSet
set_option maxRecDepth 20000 in
theorem ggX5_isTrap_X0_take : GoodIn wsX5_isTrap wsX0_take := goodIn_r _ [18, 19, 20, 21, 22, 23, 24, 25, 26, 27, 28, 29, 30, 31, 32, 17, 33, 58, 59, 60, 61, 62, 63, 64, 65, 66, 67, 68, 69, 70, 71] (by decide +kernel) (by decide +kernel)
set_option maxRecDepth 20000 in
theorem gX5_isTrap_X0_take : GoodIn wsX5_isTrap (wsV RX5 135 RX0 yX0_take wsX0_take) := goodIn_app (goodIn_of _ (by decide +kernel)) ggX5_isTrap_X0_take
set_option maxRecDepth 20000 in
theorem ggX5_isTrap_X0_isClosedFor : GoodIn wsX5_isTrap wsX0_isClosedFor := goodIn_r _ [37, 21, 22, 38, 39, 40, 17, 41, 20, 26, 42, 43, 44, 45, 67, 68, 69, 70, 71] (by decide +kernel) (by decide +kernel)
set_option maxRecDepth 20000 in
theorem gX5_isTrap_X0_isClosedFor : GoodIn wsX5_isTrap (wsV RX5 250 RX0 yX0_isClosedFor wsX0_isClosedFor) := goodIn_app (goodIn_of _ (by decide +kernel)) ggX5_isTrap_X0_isClosedFor
theorem dX5_isTrap_0 : decode cX5_isTrap 0 = .ok (.iload_n 1, 1) := by decide +kernel
theorem dX5_isTrap_1 : decode cX5_isTrap 1 = .ok (.invokestatic 195, 3) := by decide +kernel
theorem dX5_isTrap_4 : decode cX5_isTrap 4 = .ok (.aload_n 0, 1) := by decide +kernel
theorem dX5_isTrap_5 : decode cX5_isTrap 5 = .ok (.iload_n 2, 1) := by decide +kernel
theorem dX5_isTrap_6 : decode cX5_isTrap 6 = .ok (.invokevirtual 231, 3) := by decide +kernel
theorem dX5_isTrap_9 : decode cX5_isTrap 9 = .ok (.aload_n 0, 1) := by decide +kernel
theorem dX5_isTrap_10 : decode cX5_isTrap 10 = .ok (.getfield 47, 3) := by decide +kernel
theorem dX5_isTrap_13 : decode cX5_isTrap 13 = .ok (.aload_n 0, 1) := by decide +kernel
theorem dX5_isTrap_14 : decode cX5_isTrap 14 = .ok (.getfield 12, 3) := by decide +kernel
theorem dX5_isTrap_17 : decode cX5_isTrap 17 = .ok (.invokevirtual 135, 3) := by decide +kernel
theorem dX5_isTrap_20 : decode cX5_isTrap 20 = .ok (.aload_n 0, 1) := by decide +kernel
theorem dX5_isTrap_21 : decode cX5_isTrap 21 = .ok (.getfield 47, 3) := by decide +kernel
theorem dX5_isTrap_24 : decode cX5_isTrap 24 = .ok (.iload_n 1, 1) := by decide +kernel
theorem dX5_isTrap_25 : decode cX5_isTrap 25 = .ok (.iload_n 2, 1) := by decide +kernel
theorem dX5_isTrap_26 : decode cX5_isTrap 26 = .ok (.invokevirtual 250, 3) := by decide +kernel
theorem dX5_isTrap_29 : decode cX5_isTrap 29 = .ok (.ireturn, 1) := by decide +kernel
set_option maxRecDepth 20000 in
theorem ggX5_wonIfCall_X5_needPlace : GoodIn wsX5_wonIfCall wsX5_needPlace := goodIn_ca (goodIn_r _ [7, 8, 9, 2, 10, 11, 12, 13, 14, 15, 68, 69, 70, 71, 72, 73, 74, 75, 76, 77, 78, 79, 80, 81, 82, 83, 84, 85, 86, 87, 88] (by decide +kernel) (by decide +kernel)) (goodIn_sub (fun _ h => List.mem_cons_of_mem _ (List.mem_append_left _ (List.mem_append_right _ h))) (by decide +kernel))
set_option maxRecDepth 20000 in
theorem gX5_wonIfCall_X5_needPlace : GoodIn wsX5_wonIfCall (wsV RX5 156 RX5 yX5_needPlace wsX5_needPlace) := goodIn_app (goodIn_of _ (by decide +kernel)) ggX5_wonIfCall_X5_needPlace
set_option maxRecDepth 20000 in
theorem ggX5_wonIfCall_X5_needCall : GoodIn wsX5_wonIfCall wsX5_needCall := goodIn_ca (goodIn_r _ [18, 19, 20] (by decide +kernel) (by decide +kernel)) (goodIn_sub (fun _ h => List.mem_cons_of_mem _ (List.mem_append_right _ h)) (by decide +kernel))
set_option maxRecDepth 20000 in
theorem gX5_wonIfCall_X5_needCall : GoodIn wsX5_wonIfCall (va_wsS RX5 189 yX5_needCall wsX5_needCall) := goodIn_app (goodIn_of _ (by decide +kernel)) ggX5_wonIfCall_X5_needCall
set_option maxRecDepth 20000 in
theorem ggX5_wonIfCall_X0_take : GoodIn wsX5_wonIfCall wsX0_take := goodIn_r _ [25, 26, 27, 28, 29, 30, 31, 32, 33, 34, 35, 36, 37, 38, 39, 24, 40, 80, 81, 82, 83, 84, 85, 86, 87, 88, 89, 90, 91, 92, 93] (by decide +kernel) (by decide +kernel)
set_option maxRecDepth 20000 in
theorem gX5_wonIfCall_X0_take : GoodIn wsX5_wonIfCall (wsV RX5 135 RX0 yX0_take wsX0_take) := goodIn_app (goodIn_of _ (by decide +kernel)) ggX5_wonIfCall_X0_take
set_option maxRecDepth 20000 in
theorem ggX5_wonIfCall_X0_changeCall : GoodIn wsX5_wonIfCall wsX0_changeCall := goodIn_r _ [44, 31, 89, 90, 91, 92, 93] (by decide +kernel) (by decide +kernel)
set_option maxRecDepth 20000 in
theorem gX5_wonIfCall_X0_changeCall : GoodIn wsX5_wonIfCall (wsV RX5 256 RX0 yX0_changeCall wsX0_changeCall) := goodIn_app (goodIn_of _ (by decide +kernel)) ggX5_wonIfCall_X0_changeCall
set_option maxRecDepth 20000 in
theorem ggX5_wonIfCall_X0_wonBy : GoodIn wsX5_wonIfCall wsX0_wonBy := goodIn_r _ [48, 29, 28, 49, 50, 51, 24, 52, 27, 33, 53, 54, 55, 56, 57, 58, 59, 60, 61, 62, 63, 31, 64, 65, 66, 67, 89, 90, 91, 92, 93] (by decide +kernel) (by decide +kernel)
set_option maxRecDepth 20000 in
theorem gX5_wonIfCall_X0_wonBy : GoodIn wsX5_wonIfCall (wsV RX5 259 RX0 yX0_wonBy wsX0_wonBy) := goodIn_app (goodIn_of _ (by decide +kernel)) ggX5_wonIfCall_X0_wonBy
theorem dX5_wonIfCall_0 : decode cX5_wonIfCall 0 = .ok (.aload_n 0, 1) := by decide +kernel
theorem dX5_wonIfCall_1 : decode cX5_wonIfCall 1 = .ok (.iload_n 1, 1) := by decide +kernel
theorem dX5_wonIfCall_2 : decode cX5_wonIfCall 2 = .ok (.invokevirtual 156, 3) := by decide +kernel
theorem dX5_wonIfCall_5 : decode cX5_wonIfCall 5 = .ok (.iload_n 2, 1) := by decide +kernel
theorem dX5_wonIfCall_6 : decode cX5_wonIfCall 6 = .ok (.invokestatic 189, 3) := by decide +kernel
theorem dX5_wonIfCall_9 : decode cX5_wonIfCall 9 = .ok (.aload_n 0, 1) := by decide +kernel
theorem dX5_wonIfCall_10 : decode cX5_wonIfCall 10 = .ok (.getfield 47, 3) := by decide +kernel
theorem dX5_wonIfCall_13 : decode cX5_wonIfCall 13 = .ok (.aload_n 0, 1) := by decide +kernel
theorem dX5_wonIfCall_14 : decode cX5_wonIfCall 14 = .ok (.getfield 12, 3) := by decide +kernel
theorem dX5_wonIfCall_17 : decode cX5_wonIfCall 17 = .ok (.invokevirtual 135, 3) := by decide +kernel
theorem dX5_wonIfCall_20 : decode cX5_wonIfCall 20 = .ok (.aload_n 0, 1) := by decide +kernel
theorem dX5_wonIfCall_21 : decode cX5_wonIfCall 21 = .ok (.getfield 47, 3) := by decide +kernel
theorem dX5_wonIfCall_24 : decode cX5_wonIfCall 24 = .ok (.iload_n 1, 1) := by decide +kernel
theorem dX5_wonIfCall_25 : decode cX5_wonIfCall 25 = .ok (.iload_n 2, 1) := by decide +kernel
theorem dX5_wonIfCall_26 : decode cX5_wonIfCall 26 = .ok (.invokevirtual 256, 3) := by decide +kernel
theorem dX5_wonIfCall_29 : decode cX5_wonIfCall 29 = .ok (.aload_n 0, 1) := by decide +kernel
theorem dX5_wonIfCall_30 : decode cX5_wonIfCall 30 = .ok (.getfield 47, 3) := by decide +kernel
theorem dX5_wonIfCall_33 : decode cX5_wonIfCall 33 = .ok (.iconst 0, 1) := by decide +kernel
theorem dX5_wonIfCall_34 : decode cX5_wonIfCall 34 = .ok (.invokevirtual 259, 3) := by decide +kernel
theorem dX5_wonIfCall_37 : decode cX5_wonIfCall 37 = .ok (.ireturn, 1) := by decide +kernel
set_option maxRecDepth 20000 in
theorem ggX5_wonIfOther_X5_needPlace : GoodIn wsX5_wonIfOther wsX5_needPlace := goodIn_ca (goodIn_r _ [7, 8, 9, 2, 10, 11, 12, 13, 14, 15, 63, 64, 65, 66, 67, 68, 69, 70, 71, 72, 73, 74, 75, 76, 77, 78, 79, 80, 81, 82, 83] (by decide +kernel) (by decide +kernel)) (goodIn_sub (fun _ h => List.mem_cons_of_mem _ (List.mem_append_right _ h)) (by decide +kernel))
set_option maxRecDepth 20000 in
theorem gX5_wonIfOther_X5_needPlace : GoodIn wsX5_wonIfOther (wsV RX5 156 RX5 yX5_needPlace wsX5_needPlace) := goodIn_app (goodIn_of _ (by decide +kernel)) ggX5_wonIfOther_X5_needPlace
set_option maxRecDepth 20000 in
theorem ggX5_wonIfOther_X0_take : GoodIn wsX5_wonIfOther wsX0_take := goodIn_r _ [20, 21, 22, 23, 24, 25, 26, 27, 28, 29, 30, 31, 32, 33, 34, 19, 35, 75, 76, 77, 78, 79, 80, 81, 82, 83, 84, 85, 86, 87, 88] (by decide +kernel) (by decide +kernel)
set_option maxRecDepth 20000 in
theorem gX5_wonIfOther_X0_take : GoodIn wsX5_wonIfOther (wsV RX5 135 RX0 yX0_take wsX0_take) := goodIn_app (goodIn_of _ (by decide +kernel)) ggX5_wonIfOther_X0_take
set_option maxRecDepth 20000 in
theorem ggX5_wonIfOther_X0_changeOwner : GoodIn wsX5_wonIfOther wsX0_changeOwner := goodIn_r _ [39, 24, 84, 85, 86, 87, 88] (by decide +kernel) (by decide +kernel)
set_option maxRecDepth 20000 in
theorem gX5_wonIfOther_X0_changeOwner : GoodIn wsX5_wonIfOther (wsV RX5 261 RX0 yX0_changeOwner wsX0_changeOwner) := goodIn_app (goodIn_of _ (by decide +kernel)) ggX5_wonIfOther_X0_changeOwner
set_option maxRecDepth 20000 in
theorem ggX5_wonIfOther_X0_wonBy : GoodIn wsX5_wonIfOther wsX0_wonBy := goodIn_r _ [43, 24, 23, 44, 45, 46, 19, 47, 22, 28, 48, 49, 50, 51, 52, 53, 54, 55, 56, 57, 58, 26, 59, 60, 61, 62, 84, 85, 86, 87, 88] (by decide +kernel) (by decide +kernel)
set_option maxRecDepth 20000 in
theorem gX5_wonIfOther_X0_wonBy : GoodIn wsX5_wonIfOther (wsV RX5 259 RX0 yX0_wonBy wsX0_wonBy) := goodIn_app (goodIn_of _ (by decide +kernel)) ggX5_wonIfOther_X0_wonBy
theorem dX5_wonIfOther_0 : decode cX5_wonIfOther 0 = .ok (.aload_n 0, 1) := by decide +kernel
theorem dX5_wonIfOther_1 : decode cX5_wonIfOther 1 = .ok (.iload_n 1, 1) := by decide +kernel
theorem dX5_wonIfOther_2 : decode cX5_wonIfOther 2 = .ok (.invokevirtual 156, 3) := by decide +kernel
theorem dX5_wonIfOther_5 : decode cX5_wonIfOther 5 = .ok (.aload_n 0, 1) := by decide +kernel
theorem dX5_wonIfOther_6 : decode cX5_wonIfOther 6 = .ok (.getfield 47, 3) := by decide +kernel
theorem dX5_wonIfOther_9 : decode cX5_wonIfOther 9 = .ok (.aload_n 0, 1) := by decide +kernel
theorem dX5_wonIfOther_10 : decode cX5_wonIfOther 10 = .ok (.getfield 12, 3) := by decide +kernel
theorem dX5_wonIfOther_13 : decode cX5_wonIfOther 13 = .ok (.invokevirtual 135, 3) := by decide +kernel
theorem dX5_wonIfOther_16 : decode cX5_wonIfOther 16 = .ok (.aload_n 0, 1) := by decide +kernel
theorem dX5_wonIfOther_17 : decode cX5_wonIfOther 17 = .ok (.getfield 47, 3) := by decide +kernel
theorem dX5_wonIfOther_20 : decode cX5_wonIfOther 20 = .ok (.iload_n 1, 1) := by decide +kernel
theorem dX5_wonIfOther_21 : decode cX5_wonIfOther 21 = .ok (.invokevirtual 261, 3) := by decide +kernel
theorem dX5_wonIfOther_24 : decode cX5_wonIfOther 24 = .ok (.aload_n 0, 1) := by decide +kernel
theorem dX5_wonIfOther_25 : decode cX5_wonIfOther 25 = .ok (.getfield 47, 3) := by decide +kernel
theorem dX5_wonIfOther_28 : decode cX5_wonIfOther 28 = .ok (.iconst 0, 1) := by decide +kernel
theorem dX5_wonIfOther_29 : decode cX5_wonIfOther 29 = .ok (.invokevirtual 259, 3) := by decide +kernel
theorem dX5_wonIfOther_32 : decode cX5_wonIfOther 32 = .ok (.ireturn, 1) := by decide +kernel
set_option maxRecDepth 20000 in
theorem ggX5_wonWithout_X5_needMove : GoodIn wsX5_wonWithout wsX5_needMove := goodIn_ca (goodIn_r _ [9, 10, 11, 2, 12, 60, 61, 62, 63, 64, 65, 66, 67, 68, 69, 70, 71, 72, 73, 74, 75, 76, 77, 78, 79, 80] (by decide +kernel) (by decide +kernel)) (goodIn_sub (fun _ h => List.mem_cons_of_mem _ (List.mem_append_right _ h)) (by decide +kernel))
set_option maxRecDepth 20000 in
theorem gX5_wonWithout_X5_needMove : GoodIn wsX5_wonWithout (wsV RX5 174 RX5 yX5_needMove wsX5_needMove) := goodIn_app (goodIn_of _ (by decide +kernel)) ggX5_wonWithout_X5_needMove
set_option maxRecDepth 20000 in
theorem ggX5_wonWithout_X0_take : GoodIn wsX5_wonWithout wsX0_take := goodIn_r _ [17, 18, 19, 20, 21, 22, 23, 24, 25, 26, 27, 28, 29, 30, 31, 16, 32, 72, 73, 74, 75, 76, 77, 78, 79, 80, 81, 82, 83, 84, 85] (by decide +kernel) (by decide +kernel)
set_option maxRecDepth 20000 in
theorem gX5_wonWithout_X0_take : GoodIn wsX5_wonWithout (wsV RX5 135 RX0 yX0_take wsX0_take) := goodIn_app (goodIn_of _ (by decide +kernel)) ggX5_wonWithout_X0_take
set_option maxRecDepth 20000 in
theorem ggX5_wonWithout_X0_cut : GoodIn wsX5_wonWithout wsX0_cut := goodIn_r _ [36, 25, 81, 82, 83, 84, 85] (by decide +kernel) (by decide +kernel)
set_option maxRecDepth 20000 in
theorem gX5_wonWithout_X0_cut : GoodIn wsX5_wonWithout (wsV RX5 264 RX0 yX0_cut wsX0_cut) := goodIn_app (goodIn_of _ (by decide +kernel)) ggX5_wonWithout_X0_cut
set_option maxRecDepth 20000 in
theorem ggX5_wonWithout_X0_wonBy : GoodIn wsX5_wonWithout wsX0_wonBy := goodIn_r _ [40, 21, 20, 41, 42, 43, 16, 44, 19, 25, 45, 46, 47, 48, 49, 50, 51, 52, 53, 54, 55, 23, 56, 57, 58, 59, 81, 82, 83, 84, 85] (by decide +kernel) (by decide +kernel)
set_option maxRecDepth 20000 in
theorem gX5_wonWithout_X0_wonBy : GoodIn wsX5_wonWithout (wsV RX5 259 RX0 yX0_wonBy wsX0_wonBy) := goodIn_app (goodIn_of _ (by decide +kernel)) ggX5_wonWithout_X0_wonBy
theorem dX5_wonWithout_0 : decode cX5_wonWithout 0 = .ok (.aload_n 0, 1) := by decide +kernel
theorem dX5_wonWithout_1 : decode cX5_wonWithout 1 = .ok (.iload_n 1, 1) := by decide +kernel
theorem dX5_wonWithout_2 : decode cX5_wonWithout 2 = .ok (.invokevirtual 174, 3) := by decide +kernel
theorem dX5_wonWithout_5 : decode cX5_wonWithout 5 = .ok (.aload_n 0, 1) := by decide +kernel
theorem dX5_wonWithout_6 : decode cX5_wonWithout 6 = .ok (.getfield 47, 3) := by decide +kernel
theorem dX5_wonWithout_9 : decode cX5_wonWithout 9 = .ok (.aload_n 0, 1) := by decide +kernel
theorem dX5_wonWithout_10 : decode cX5_wonWithout 10 = .ok (.getfield 12, 3) := by decide +kernel
theorem dX5_wonWithout_13 : decode cX5_wonWithout 13 = .ok (.invokevirtual 135, 3) := by decide +kernel
theorem dX5_wonWithout_16 : decode cX5_wonWithout 16 = .ok (.aload_n 0, 1) := by decide +kernel
theorem dX5_wonWithout_17 : decode cX5_wonWithout 17 = .ok (.getfield 47, 3) := by decide +kernel
theorem dX5_wonWithout_20 : decode cX5_wonWithout 20 = .ok (.aload_n 0, 1) := by decide +kernel
theorem dX5_wonWithout_21 : decode cX5_wonWithout 21 = .ok (.getfield 12, 3) := by decide +kernel
theorem dX5_wonWithout_24 : decode cX5_wonWithout 24 = .ok (.getfield 179, 3) := by decide +kernel
theorem dX5_wonWithout_27 : decode cX5_wonWithout 27 = .ok (.iload_n 1, 1) := by decide +kernel
theorem dX5_wonWithout_28 : decode cX5_wonWithout 28 = .ok (.iaload, 1) := by decide +kernel
theorem dX5_wonWithout_29 : decode cX5_wonWithout 29 = .ok (.aload_n 0, 1) := by decide +kernel
theorem dX5_wonWithout_30 : decode cX5_wonWithout 30 = .ok (.getfield 12, 3) := by decide +kernel
theorem dX5_wonWithout_33 : decode cX5_wonWithout 33 = .ok (.getfield 182, 3) := by decide +kernel
theorem dX5_wonWithout_36 : decode cX5_wonWithout 36 = .ok (.iload_n 1, 1) := by decide +kernel
theorem dX5_wonWithout_37 : decode cX5_wonWithout 37 = .ok (.iaload, 1) := by decide +kernel
theorem dX5_wonWithout_38 : decode cX5_wonWithout 38 = .ok (.invokevirtual 264, 3) := by decide +kernel
theorem dX5_wonWithout_41 : decode cX5_wonWithout 41 = .ok (.aload_n 0, 1) := by decide +kernel
theorem dX5_wonWithout_42 : decode cX5_wonWithout 42 = .ok (.getfield 47, 3) := by decide +kernel
theorem dX5_wonWithout_45 : decode cX5_wonWithout 45 = .ok (.iconst 0, 1) := by decide +kernel
theorem dX5_wonWithout_46 : decode cX5_wonWithout 46 = .ok (.invokevirtual 259, 3) := by decide +kernel
theorem dX5_wonWithout_49 : decode cX5_wonWithout 49 = .ok (.ireturn, 1) := by decide +kernel
set_option maxRecDepth 20000 in
theorem ggX5_wonWith_X5_needPlace : GoodIn wsX5_wonWith wsX5_needPlace := goodIn_ca (goodIn_r _ [7, 8, 9, 2, 10, 11, 12, 13, 14, 15, 60, 61, 62, 63, 64, 65, 66, 67, 68, 69, 70, 71, 72, 73, 74, 75, 76, 77, 78, 79, 80] (by decide +kernel) (by decide +kernel)) (goodIn_sub (fun _ h => List.mem_cons_of_mem _ (List.mem_append_right _ h)) (by decide +kernel))
set_option maxRecDepth 20000 in
theorem gX5_wonWith_X5_needPlace : GoodIn wsX5_wonWith (wsV RX5 156 RX5 yX5_needPlace wsX5_needPlace) := goodIn_app (goodIn_of _ (by decide +kernel)) ggX5_wonWith_X5_needPlace
set_option maxRecDepth 20000 in
theorem ggX5_wonWith_X0_take : GoodIn wsX5_wonWith wsX0_take := goodIn_r _ [20, 21, 22, 23, 24, 25, 26, 27, 28, 29, 30, 31, 32, 33, 34, 19, 35, 72, 73, 74, 75, 76, 77, 78, 79, 80, 81, 82, 83, 84, 85] (by decide +kernel) (by decide +kernel)
set_option maxRecDepth 20000 in
theorem gX5_wonWith_X0_take : GoodIn wsX5_wonWith (wsV RX5 135 RX0 yX0_take wsX0_take) := goodIn_app (goodIn_of _ (by decide +kernel)) ggX5_wonWith_X0_take
set_option maxRecDepth 20000 in
theorem ggX5_wonWith_X0_join : GoodIn wsX5_wonWith wsX0_join := goodIn_r _ [35, 28, 81, 82, 83, 84, 85] (by decide +kernel) (by decide +kernel)
set_option maxRecDepth 20000 in
theorem gX5_wonWith_X0_join : GoodIn wsX5_wonWith (wsV RX5 267 RX0 yX0_join wsX0_join) := goodIn_app (goodIn_of _ (by decide +kernel)) ggX5_wonWith_X0_join
set_option maxRecDepth 20000 in
theorem ggX5_wonWith_X0_wonBy : GoodIn wsX5_wonWith wsX0_wonBy := goodIn_r _ [40, 24, 23, 41, 42, 43, 19, 44, 22, 28, 45, 46, 47, 48, 49, 50, 51, 52, 53, 54, 55, 26, 56, 57, 58, 59, 81, 82, 83, 84, 85] (by decide +kernel) (by decide +kernel)
set_option maxRecDepth 20000 in
theorem gX5_wonWith_X0_wonBy : GoodIn wsX5_wonWith (wsV RX5 259 RX0 yX0_wonBy wsX0_wonBy) := goodIn_app (goodIn_of _ (by decide +kernel)) ggX5_wonWith_X0_wonBy
theorem dX5_wonWith_0 : decode cX5_wonWith 0 = .ok (.aload_n 0, 1) := by decide +kernel
theorem dX5_wonWith_1 : decode cX5_wonWith 1 = .ok (.iload_n 1, 1) := by decide +kernel
theorem dX5_wonWith_2 : decode cX5_wonWith 2 = .ok (.invokevirtual 156, 3) := by decide +kernel
theorem dX5_wonWith_5 : decode cX5_wonWith 5 = .ok (.aload_n 0, 1) := by decide +kernel
theorem dX5_wonWith_6 : decode cX5_wonWith 6 = .ok (.iload_n 2, 1) := by decide +kernel
theorem dX5_wonWith_7 : decode cX5_wonWith 7 = .ok (.invokevirtual 156, 3) := by decide +kernel
theorem dX5_wonWith_10 : decode cX5_wonWith 10 = .ok (.aload_n 0, 1) := by decide +kernel
theorem dX5_wonWith_11 : decode cX5_wonWith 11 = .ok (.getfield 47, 3) := by decide +kernel
theorem dX5_wonWith_14 : decode cX5_wonWith 14 = .ok (.aload_n 0, 1) := by decide +kernel
theorem dX5_wonWith_15 : decode cX5_wonWith 15 = .ok (.getfield 12, 3) := by decide +kernel
theorem dX5_wonWith_18 : decode cX5_wonWith 18 = .ok (.invokevirtual 135, 3) := by decide +kernel
theorem dX5_wonWith_21 : decode cX5_wonWith 21 = .ok (.aload_n 0, 1) := by decide +kernel
theorem dX5_wonWith_22 : decode cX5_wonWith 22 = .ok (.getfield 47, 3) := by decide +kernel
theorem dX5_wonWith_25 : decode cX5_wonWith 25 = .ok (.iload_n 1, 1) := by decide +kernel
theorem dX5_wonWith_26 : decode cX5_wonWith 26 = .ok (.iload_n 2, 1) := by decide +kernel
theorem dX5_wonWith_27 : decode cX5_wonWith 27 = .ok (.invokevirtual 267, 3) := by decide +kernel
theorem dX5_wonWith_30 : decode cX5_wonWith 30 = .ok (.aload_n 0, 1) := by decide +kernel
theorem dX5_wonWith_31 : decode cX5_wonWith 31 = .ok (.getfield 47, 3) := by decide +kernel
theorem dX5_wonWith_34 : decode cX5_wonWith 34 = .ok (.iconst 0, 1) := by decide +kernel
theorem dX5_wonWith_35 : decode cX5_wonWith 35 = .ok (.invokevirtual 259, 3) := by decide +kernel
theorem dX5_wonWith_38 : decode cX5_wonWith 38 = .ok (.ireturn, 1) := by decide +kernel
set_option maxRecDepth 20000 in
theorem ggX5_setOwner_X5_needPlace : GoodIn wsX5_setOwner wsX5_needPlace := goodIn_ca (goodIn_r _ [7, 8, 9, 1, 10, 11, 12, 13, 14, 15, 62, 63, 64, 65, 66, 67, 68, 69, 70, 71, 72, 73, 74, 75, 76, 77, 78, 79, 80, 81, 82] (by decide +kernel) (by decide +kernel)) (goodIn_sub (fun _ h => List.mem_cons_of_mem _ (List.mem_append_left _ (List.mem_append_right _ h))) (by decide +kernel))
set_option maxRecDepth 20000 in
theorem gX5_setOwner_X5_needPlace : GoodIn wsX5_setOwner (wsV RX5 156 RX5 yX5_needPlace wsX5_needPlace) := goodIn_app (goodIn_of _ (by decide +kernel)) ggX5_setOwner_X5_needPlace
set_option maxRecDepth 20000 in
theorem ggX5_setOwner_X5_needPlayer : GoodIn wsX5_setOwner wsX5_needPlayer := goodIn_ca (goodIn_r _ [18, 19, 20] (by decide +kernel) (by decide +kernel)) (goodIn_sub (fun _ h => List.mem_cons_of_mem _ (List.mem_append_right _ h)) (by decide +kernel))
set_option maxRecDepth 20000 in
theorem gX5_setOwner_X5_needPlayer : GoodIn wsX5_setOwner (va_wsS RX5 195 yX5_needPlayer wsX5_needPlayer) := goodIn_app (goodIn_of _ (by decide +kernel)) ggX5_setOwner_X5_needPlayer
set_option maxRecDepth 20000 in
theorem ggX5_setOwner_X5_beginChange : GoodIn wsX5_setOwner wsX5_beginChange := goodIn_r _ [24, 25, 1, 26, 27, 28, 29, 30, 31, 32, 33, 34, 35, 36, 37, 13, 38, 15, 39, 40, 41, 42, 43, 44, 45, 46, 47, 48, 49, 50, 51, 52, 53, 54, 55, 56, 57, 62, 63, 64, 65, 66, 67, 68, 69, 70, 71, 72, 73, 83, 84, 85, 74, 75, 76, 77, 78, 79, 80, 81, 82, 86, 87, 88, 89, 90] (by decide +kernel) (by decide +kernel)
set_option maxRecDepth 20000 in
theorem gX5_setOwner_X5_beginChange : GoodIn wsX5_setOwner (wsV RX5 272 RX5 yX5_beginChange wsX5_beginChange) := goodIn_app (goodIn_of _ (by decide +kernel)) ggX5_setOwner_X5_beginChange
set_option maxRecDepth 20000 in
theorem ggX5_setOwner_X1_ownerOf : GoodIn wsX5_setOwner wsX1_ownerOf := goodIn_r _ [61, 39, 74, 75, 76, 77, 78, 79, 80, 81, 82] (by decide +kernel) (by decide +kernel)
set_option maxRecDepth 20000 in
theorem gX5_setOwner_X1_ownerOf : GoodIn wsX5_setOwner (wsV RX5 159 RX1 yX1_ownerOf wsX1_ownerOf) := goodIn_app (goodIn_of _ (by decide +kernel)) ggX5_setOwner_X1_ownerOf
theorem dX5_setOwner_0 : decode cX5_setOwner 0 = .ok (.aload_n 0, 1) := by decide +kernel
theorem dX5_setOwner_1 : decode cX5_setOwner 1 = .ok (.iload_n 1, 1) := by decide +kernel
theorem dX5_setOwner_2 : decode cX5_setOwner 2 = .ok (.invokevirtual 156, 3) := by decide +kernel
theorem dX5_setOwner_5 : decode cX5_setOwner 5 = .ok (.iload_n 2, 1) := by decide +kernel
theorem dX5_setOwner_6 : decode cX5_setOwner 6 = .ok (.invokestatic 195, 3) := by decide +kernel
theorem dX5_setOwner_9 : decode cX5_setOwner 9 = .ok (.aload_n 0, 1) := by decide +kernel
theorem dX5_setOwner_10 : decode cX5_setOwner 10 = .ok (.invokevirtual 272, 3) := by decide +kernel
theorem dX5_setOwner_13 : decode cX5_setOwner 13 = .ok (.aload_n 0, 1) := by decide +kernel
theorem dX5_setOwner_14 : decode cX5_setOwner 14 = .ok (.getfield 12, 3) := by decide +kernel
theorem dX5_setOwner_17 : decode cX5_setOwner 17 = .ok (.iload_n 1, 1) := by decide +kernel
theorem dX5_setOwner_18 : decode cX5_setOwner 18 = .ok (.invokevirtual 159, 3) := by decide +kernel
theorem dX5_setOwner_21 : decode cX5_setOwner 21 = .ok (.istore_n 3, 1) := by decide +kernel
theorem dX5_setOwner_22 : decode cX5_setOwner 22 = .ok (.iload_n 2, 1) := by decide +kernel
theorem dX5_setOwner_23 : decode cX5_setOwner 23 = .ok (.iload_n 3, 1) := by decide +kernel
theorem dX5_setOwner_24 : decode cX5_setOwner 24 = .ok (.if_icmp .eq 18, 3) := by decide +kernel
theorem dX5_setOwner_27 : decode cX5_setOwner 27 = .ok (.aload_n 0, 1) := by decide +kernel
theorem dX5_setOwner_28 : decode cX5_setOwner 28 = .ok (.getfield 12, 3) := by decide +kernel
theorem dX5_setOwner_31 : decode cX5_setOwner 31 = .ok (.dup, 1) := by decide +kernel
theorem dX5_setOwner_32 : decode cX5_setOwner 32 = .ok (.getfield 126, 3) := by decide +kernel
theorem dX5_setOwner_35 : decode cX5_setOwner 35 = .ok (.iconst 1, 1) := by decide +kernel
theorem dX5_setOwner_36 : decode cX5_setOwner 36 = .ok (.iload_n 1, 1) := by decide +kernel
theorem dX5_setOwner_37 : decode cX5_setOwner 37 = .ok (.ishl, 1) := by decide +kernel
theorem dX5_setOwner_38 : decode cX5_setOwner 38 = .ok (.ixor, 1) := by decide +kernel
theorem dX5_setOwner_39 : decode cX5_setOwner 39 = .ok (.putfield 126, 3) := by decide +kernel
theorem dX5_setOwner_42 : decode cX5_setOwner 42 = .ok (.iload_n 3, 1) := by decide +kernel
theorem dX5_setOwner_43 : decode cX5_setOwner 43 = .ok (.ireturn, 1) := by decide +kernel
set_option maxRecDepth 20000 in
theorem ggX5_setCall_X5_needPlace : GoodIn wsX5_setCall wsX5_needPlace := goodIn_ca (goodIn_r _ [7, 8, 9, 1, 10, 11, 12, 13, 14, 15, 58, 59, 60, 61, 62, 63, 64, 65, 66, 67, 68, 69, 70, 71, 72, 73, 74, 75, 76, 77, 78] (by decide +kernel) (by decide +kernel)) (goodIn_sub (fun _ h => List.mem_cons_of_mem _ (List.mem_append_left _ (List.mem_append_right _ h))) (by decide +kernel))
set_option maxRecDepth 20000 in
theorem gX5_setCall_X5_needPlace : GoodIn wsX5_setCall (wsV RX5 156 RX5 yX5_needPlace wsX5_needPlace) := goodIn_app (goodIn_of _ (by decide +kernel)) ggX5_setCall_X5_needPlace
set_option maxRecDepth 20000 in
theorem ggX5_setCall_X5_needCall : GoodIn wsX5_setCall wsX5_needCall := goodIn_ca (goodIn_r _ [18, 19, 20] (by decide +kernel) (by decide +kernel)) (goodIn_sub (fun _ h => List.mem_cons_of_mem _ (List.mem_append_right _ h)) (by decide +kernel))
set_option maxRecDepth 20000 in
theorem gX5_setCall_X5_needCall : GoodIn wsX5_setCall (va_wsS RX5 189 yX5_needCall wsX5_needCall) := goodIn_app (goodIn_of _ (by decide +kernel)) ggX5_setCall_X5_needCall
set_option maxRecDepth 20000 in
theorem ggX5_setCall_X5_beginChange : GoodIn wsX5_setCall wsX5_beginChange := goodIn_r _ [24, 25, 1, 26, 27, 28, 29, 30, 31, 32, 33, 34, 35, 36, 37, 13, 38, 15, 39, 40, 41, 42, 43, 44, 45, 46, 47, 48, 49, 50, 51, 52, 53, 54, 55, 56, 57, 58, 59, 60, 61, 62, 63, 64, 65, 66, 67, 68, 69, 79, 80, 81, 70, 71, 72, 73, 74, 75, 76, 77, 78, 82, 83, 84, 85, 86] (by decide +kernel) (by decide +kernel)
set_option maxRecDepth 20000 in
theorem gX5_setCall_X5_beginChange : GoodIn wsX5_setCall (wsV RX5 272 RX5 yX5_beginChange wsX5_beginChange) := goodIn_app (goodIn_of _ (by decide +kernel)) ggX5_setCall_X5_beginChange
theorem dX5_setCall_0 : decode cX5_setCall 0 = .ok (.aload_n 0, 1) := by decide +kernel
theorem dX5_setCall_1 : decode cX5_setCall 1 = .ok (.iload_n 1, 1) := by decide +kernel
theorem dX5_setCall_2 : decode cX5_setCall 2 = .ok (.invokevirtual 156, 3) := by decide +kernel
theorem dX5_setCall_5 : decode cX5_setCall 5 = .ok (.iload_n 2, 1) := by decide +kernel
theorem dX5_setCall_6 : decode cX5_setCall 6 = .ok (.invokestatic 189, 3) := by decide +kernel
theorem dX5_setCall_9 : decode cX5_setCall 9 = .ok (.aload_n 0, 1) := by decide +kernel
theorem dX5_setCall_10 : decode cX5_setCall 10 = .ok (.invokevirtual 272, 3) := by decide +kernel
theorem dX5_setCall_13 : decode cX5_setCall 13 = .ok (.aload_n 0, 1) := by decide +kernel
theorem dX5_setCall_14 : decode cX5_setCall 14 = .ok (.getfield 12, 3) := by decide +kernel
theorem dX5_setCall_17 : decode cX5_setCall 17 = .ok (.getfield 162, 3) := by decide +kernel
theorem dX5_setCall_20 : decode cX5_setCall 20 = .ok (.iload_n 1, 1) := by decide +kernel
theorem dX5_setCall_21 : decode cX5_setCall 21 = .ok (.iaload, 1) := by decide +kernel
theorem dX5_setCall_22 : decode cX5_setCall 22 = .ok (.istore_n 3, 1) := by decide +kernel
theorem dX5_setCall_23 : decode cX5_setCall 23 = .ok (.aload_n 0, 1) := by decide +kernel
theorem dX5_setCall_24 : decode cX5_setCall 24 = .ok (.getfield 12, 3) := by decide +kernel
theorem dX5_setCall_27 : decode cX5_setCall 27 = .ok (.getfield 162, 3) := by decide +kernel
theorem dX5_setCall_30 : decode cX5_setCall 30 = .ok (.iload_n 1, 1) := by decide +kernel
theorem dX5_setCall_31 : decode cX5_setCall 31 = .ok (.iload_n 2, 1) := by decide +kernel
theorem dX5_setCall_32 : decode cX5_setCall 32 = .ok (.iastore, 1) := by decide +kernel
theorem dX5_setCall_33 : decode cX5_setCall 33 = .ok (.iload_n 3, 1) := by decide +kernel
theorem dX5_setCall_34 : decode cX5_setCall 34 = .ok (.ireturn, 1) := by decide +kernel
set_option maxRecDepth 20000 in
theorem ggX5_addMove_X5_needPlace : GoodIn wsX5_addMove wsX5_needPlace := goodIn_ca (goodIn_r _ [11, 12, 13, 5, 14, 15, 16, 17, 18, 19, 65, 66, 67, 68, 69, 70, 71, 72, 73, 74, 75, 76, 77, 78, 79, 80, 81, 82, 83, 84, 85] (by decide +kernel) (by decide +kernel)) (goodIn_sub (fun _ h => List.mem_cons_of_mem _ (List.mem_append_right _ h)) (by decide +kernel))
set_option maxRecDepth 20000 in
theorem gX5_addMove_X5_needPlace : GoodIn wsX5_addMove (wsV RX5 156 RX5 yX5_needPlace wsX5_needPlace) := goodIn_app (goodIn_of _ (by decide +kernel)) ggX5_addMove_X5_needPlace
set_option maxRecDepth 20000 in
theorem ggX5_addMove_X1_findMove : GoodIn wsX5_addMove wsX1_findMove := goodIn_r _ [23, 24, 25, 26, 77, 78, 79, 80, 81, 82, 83, 84, 85] (by decide +kernel) (by decide +kernel)
set_option maxRecDepth 20000 in
theorem gX5_addMove_X1_findMove : GoodIn wsX5_addMove (wsV RX5 185 RX1 yX1_findMove wsX1_findMove) := goodIn_app (goodIn_of _ (by decide +kernel)) ggX5_addMove_X1_findMove
set_option maxRecDepth 20000 in
theorem ggX5_addMove_X5_beginChange : GoodIn wsX5_addMove wsX5_beginChange := goodIn_r _ [30, 31, 5, 32, 33, 34, 35, 36, 37, 38, 39, 40, 41, 42, 43, 17, 44, 19, 45, 46, 47, 48, 49, 50, 24, 25, 26, 51, 52, 53, 54, 55, 56, 57, 58, 59, 60, 65, 66, 67, 68, 69, 70, 71, 72, 73, 74, 75, 76, 86, 87, 88, 77, 78, 79, 80, 81, 82, 83, 84, 85, 89, 90, 91, 92, 93] (by decide +kernel) (by decide +kernel)
set_option maxRecDepth 20000 in
theorem gX5_addMove_X5_beginChange : GoodIn wsX5_addMove (wsV RX5 272 RX5 yX5_beginChange wsX5_beginChange) := goodIn_app (goodIn_of _ (by decide +kernel)) ggX5_addMove_X5_beginChange
set_option maxRecDepth 20000 in
theorem ggX5_addMove_X1_appendMove : GoodIn wsX5_addMove wsX1_appendMove := goodIn_r _ [64, 24, 25, 26, 77, 78, 79, 80, 81, 82, 83, 84, 85] (by decide +kernel) (by decide +kernel)
set_option maxRecDepth 20000 in
theorem gX5_addMove_X1_appendMove : GoodIn wsX5_addMove (wsV RX5 71 RX1 yX1_appendMove wsX1_appendMove) := goodIn_app (goodIn_of _ (by decide +kernel)) ggX5_addMove_X1_appendMove
theorem dX5_addMove_0 : decode cX5_addMove 0 = .ok (.aload_n 0, 1) := by decide +kernel
theorem dX5_addMove_1 : decode cX5_addMove 1 = .ok (.iload_n 1, 1) := by decide +kernel
theorem dX5_addMove_2 : decode cX5_addMove 2 = .ok (.invokevirtual 156, 3) := by decide +kernel
theorem dX5_addMove_5 : decode cX5_addMove 5 = .ok (.aload_n 0, 1) := by decide +kernel
theorem dX5_addMove_6 : decode cX5_addMove 6 = .ok (.iload_n 2, 1) := by decide +kernel
theorem dX5_addMove_7 : decode cX5_addMove 7 = .ok (.invokevirtual 156, 3) := by decide +kernel
theorem dX5_addMove_10 : decode cX5_addMove 10 = .ok (.aload_n 0, 1) := by decide +kernel
theorem dX5_addMove_11 : decode cX5_addMove 11 = .ok (.getfield 12, 3) := by decide +kernel
theorem dX5_addMove_14 : decode cX5_addMove 14 = .ok (.iload_n 1, 1) := by decide +kernel
theorem dX5_addMove_15 : decode cX5_addMove 15 = .ok (.iload_n 2, 1) := by decide +kernel
theorem dX5_addMove_16 : decode cX5_addMove 16 = .ok (.invokevirtual 185, 3) := by decide +kernel
theorem dX5_addMove_19 : decode cX5_addMove 19 = .ok (.iconst (-1), 1) := by decide +kernel
theorem dX5_addMove_20 : decode cX5_addMove 20 = .ok (.if_icmp .eq 14, 3) := by decide +kernel
theorem dX5_addMove_23 : decode cX5_addMove 23 = .ok (.new 92, 3) := by decide +kernel
theorem dX5_addMove_26 : decode cX5_addMove 26 = .ok (.dup, 1) := by decide +kernel
theorem dX5_addMove_27 : decode cX5_addMove 27 = .ok (.ldc_w 283, 3) := by decide +kernel
theorem dX5_addMove_30 : decode cX5_addMove 30 = .ok (.invokespecial 96, 3) := by decide +kernel
theorem dX5_addMove_33 : decode cX5_addMove 33 = .ok (.athrow, 1) := by decide +kernel
theorem dX5_addMove_34 : decode cX5_addMove 34 = .ok (.aload_n 0, 1) := by decide +kernel
theorem dX5_addMove_35 : decode cX5_addMove 35 = .ok (.getfield 12, 3) := by decide +kernel
theorem dX5_addMove_38 : decode cX5_addMove 38 = .ok (.getfield 123, 3) := by decide +kernel
theorem dX5_addMove_41 : decode cX5_addMove 41 = .ok (.bipush 60, 2) := by decide +kernel
theorem dX5_addMove_43 : decode cX5_addMove 43 = .ok (.if_icmp .lt 14, 3) := by decide +kernel
theorem dX5_addMove_46 : decode cX5_addMove 46 = .ok (.new 82, 3) := by decide +kernel
theorem dX5_addMove_49 : decode cX5_addMove 49 = .ok (.dup, 1) := by decide +kernel
theorem dX5_addMove_50 : decode cX5_addMove 50 = .ok (.ldc_w 285, 3) := by decide +kernel
theorem dX5_addMove_53 : decode cX5_addMove 53 = .ok (.invokespecial 86, 3) := by decide +kernel
theorem dX5_addMove_56 : decode cX5_addMove 56 = .ok (.athrow, 1) := by decide +kernel
theorem dX5_addMove_57 : decode cX5_addMove 57 = .ok (.aload_n 0, 1) := by decide +kernel
theorem dX5_addMove_58 : decode cX5_addMove 58 = .ok (.invokevirtual 272, 3) := by decide +kernel
theorem dX5_addMove_61 : decode cX5_addMove 61 = .ok (.aload_n 0, 1) := by decide +kernel
theorem dX5_addMove_62 : decode cX5_addMove 62 = .ok (.getfield 12, 3) := by decide +kernel
theorem dX5_addMove_65 : decode cX5_addMove 65 = .ok (.iload_n 1, 1) := by decide +kernel
theorem dX5_addMove_66 : decode cX5_addMove 66 = .ok (.iload_n 2, 1) := by decide +kernel
theorem dX5_addMove_67 : decode cX5_addMove 67 = .ok (.invokevirtual 71, 3) := by decide +kernel
theorem dX5_addMove_70 : decode cX5_addMove 70 = .ok (.aload_n 0, 1) := by decide +kernel
theorem dX5_addMove_71 : decode cX5_addMove 71 = .ok (.getfield 12, 3) := by decide +kernel
theorem dX5_addMove_74 : decode cX5_addMove 74 = .ok (.getfield 123, 3) := by decide +kernel
theorem dX5_addMove_77 : decode cX5_addMove 77 = .ok (.iconst 1, 1) := by decide +kernel
theorem dX5_addMove_78 : decode cX5_addMove 78 = .ok (.isub, 1) := by decide +kernel
theorem dX5_addMove_79 : decode cX5_addMove 79 = .ok (.ireturn, 1) := by decide +kernel
set_option maxRecDepth 20000 in
theorem ggX5_removeMove_X5_needMove : GoodIn wsX5_removeMove wsX5_needMove := goodIn_ca (goodIn_r _ [7, 8, 9, 1, 2, 53, 54, 55, 56, 57, 58, 59, 60, 61, 62, 63, 64, 65, 66, 67, 68, 69, 70, 71, 72, 73] (by decide +kernel) (by decide +kernel)) (goodIn_sub (fun _ h => List.mem_cons_of_mem _ (List.mem_append_right _ h)) (by decide +kernel))
set_option maxRecDepth 20000 in
theorem gX5_removeMove_X5_needMove : GoodIn wsX5_removeMove (wsV RX5 174 RX5 yX5_needMove wsX5_needMove) := goodIn_app (goodIn_of _ (by decide +kernel)) ggX5_removeMove_X5_needMove
set_option maxRecDepth 20000 in
theorem ggX5_removeMove_X5_beginChange : GoodIn wsX5_removeMove wsX5_beginChange := goodIn_r _ [13, 14, 1, 15, 16, 17, 18, 19, 20, 21, 22, 23, 24, 25, 26, 27, 28, 29, 30, 31, 32, 33, 34, 35, 36, 37, 38, 39, 40, 41, 42, 43, 44, 45, 46, 47, 48, 53, 54, 55, 56, 57, 58, 59, 60, 61, 62, 63, 64, 74, 75, 76, 65, 66, 67, 68, 69, 70, 71, 72, 73, 77, 78, 79, 80, 81] (by decide +kernel) (by decide +kernel)
set_option maxRecDepth 20000 in
theorem gX5_removeMove_X5_beginChange : GoodIn wsX5_removeMove (wsV RX5 272 RX5 yX5_beginChange wsX5_beginChange) := goodIn_app (goodIn_of _ (by decide +kernel)) ggX5_removeMove_X5_beginChange
set_option maxRecDepth 20000 in
theorem ggX5_removeMove_X1_dropMove : GoodIn wsX5_removeMove wsX1_dropMove := goodIn_r _ [52, 36, 37, 38, 65, 66, 67, 68, 69, 70, 71, 72, 73] (by decide +kernel) (by decide +kernel)
set_option maxRecDepth 20000 in
theorem gX5_removeMove_X1_dropMove : GoodIn wsX5_removeMove (wsV RX5 287 RX1 yX1_dropMove wsX1_dropMove) := goodIn_app (goodIn_of _ (by decide +kernel)) ggX5_removeMove_X1_dropMove
theorem dX5_removeMove_0 : decode cX5_removeMove 0 = .ok (.aload_n 0, 1) := by decide +kernel
theorem dX5_removeMove_1 : decode cX5_removeMove 1 = .ok (.iload_n 1, 1) := by decide +kernel
theorem dX5_removeMove_2 : decode cX5_removeMove 2 = .ok (.invokevirtual 174, 3) := by decide +kernel
theorem dX5_removeMove_5 : decode cX5_removeMove 5 = .ok (.aload_n 0, 1) := by decide +kernel
theorem dX5_removeMove_6 : decode cX5_removeMove 6 = .ok (.invokevirtual 272, 3) := by decide +kernel
theorem dX5_removeMove_9 : decode cX5_removeMove 9 = .ok (.aload_n 0, 1) := by decide +kernel
theorem dX5_removeMove_10 : decode cX5_removeMove 10 = .ok (.getfield 12, 3) := by decide +kernel
theorem dX5_removeMove_13 : decode cX5_removeMove 13 = .ok (.iload_n 1, 1) := by decide +kernel
theorem dX5_removeMove_14 : decode cX5_removeMove 14 = .ok (.invokevirtual 287, 3) := by decide +kernel
theorem dX5_removeMove_17 : decode cX5_removeMove 17 = .ok (.aload_n 0, 1) := by decide +kernel
theorem dX5_removeMove_18 : decode cX5_removeMove 18 = .ok (.getfield 12, 3) := by decide +kernel
theorem dX5_removeMove_21 : decode cX5_removeMove 21 = .ok (.getfield 123, 3) := by decide +kernel
theorem dX5_removeMove_24 : decode cX5_removeMove 24 = .ok (.ireturn, 1) := by decide +kernel
set_option maxRecDepth 20000 in
theorem ggX5_preferMove_X5_needMove : GoodIn wsX5_preferMove wsX5_needMove := goodIn_ca (goodIn_r _ [7, 8, 9, 1, 10, 54, 55, 56, 57, 58, 59, 60, 61, 62, 63, 64, 65, 66, 67, 68, 69, 70, 71, 72, 73, 74] (by decide +kernel) (by decide +kernel)) (goodIn_sub (fun _ h => List.mem_cons_of_mem _ (List.mem_append_right _ h)) (by decide +kernel))
set_option maxRecDepth 20000 in
theorem gX5_preferMove_X5_needMove : GoodIn wsX5_preferMove (wsV RX5 174 RX5 yX5_needMove wsX5_needMove) := goodIn_app (goodIn_of _ (by decide +kernel)) ggX5_preferMove_X5_needMove
set_option maxRecDepth 20000 in
theorem ggX5_preferMove_X5_beginChange : GoodIn wsX5_preferMove wsX5_beginChange := goodIn_r _ [14, 15, 1, 16, 17, 18, 19, 20, 21, 22, 23, 24, 25, 26, 27, 28, 29, 30, 31, 32, 33, 34, 35, 36, 37, 38, 39, 40, 41, 42, 43, 44, 45, 46, 47, 48, 49, 54, 55, 56, 57, 58, 59, 60, 61, 62, 63, 64, 65, 75, 76, 77, 66, 67, 68, 69, 70, 71, 72, 73, 74, 78, 79, 80, 81, 82] (by decide +kernel) (by decide +kernel)
set_option maxRecDepth 20000 in
theorem gX5_preferMove_X5_beginChange : GoodIn wsX5_preferMove (wsV RX5 272 RX5 yX5_beginChange wsX5_beginChange) := goodIn_app (goodIn_of _ (by decide +kernel)) ggX5_preferMove_X5_beginChange
set_option maxRecDepth 20000 in
theorem ggX5_preferMove_X1_bringToFront : GoodIn wsX5_preferMove wsX1_bringToFront := goodIn_r _ [53, 38, 39, 66, 67, 68, 69, 70, 71, 72, 73, 74] (by decide +kernel) (by decide +kernel)
set_option maxRecDepth 20000 in
theorem gX5_preferMove_X1_bringToFront : GoodIn wsX5_preferMove (wsV RX5 290 RX1 yX1_bringToFront wsX1_bringToFront) := goodIn_app (goodIn_of _ (by decide +kernel)) ggX5_preferMove_X1_bringToFront
theorem dX5_preferMove_0 : decode cX5_preferMove 0 = .ok (.aload_n 0, 1) := by decide +kernel
theorem dX5_preferMove_1 : decode cX5_preferMove 1 = .ok (.iload_n 1, 1) := by decide +kernel
theorem dX5_preferMove_2 : decode cX5_preferMove 2 = .ok (.invokevirtual 174, 3) := by decide +kernel
theorem dX5_preferMove_5 : decode cX5_preferMove 5 = .ok (.aload_n 0, 1) := by decide +kernel
theorem dX5_preferMove_6 : decode cX5_preferMove 6 = .ok (.invokevirtual 272, 3) := by decide +kernel
theorem dX5_preferMove_9 : decode cX5_preferMove 9 = .ok (.aload_n 0, 1) := by decide +kernel
theorem dX5_preferMove_10 : decode cX5_preferMove 10 = .ok (.getfield 12, 3) := by decide +kernel
theorem dX5_preferMove_13 : decode cX5_preferMove 13 = .ok (.iload_n 1, 1) := by decide +kernel
theorem dX5_preferMove_14 : decode cX5_preferMove 14 = .ok (.invokevirtual 290, 3) := by decide +kernel
theorem dX5_preferMove_17 : decode cX5_preferMove 17 = .ok (.aload_n 0, 1) := by decide +kernel
theorem dX5_preferMove_18 : decode cX5_preferMove 18 = .ok (.getfield 12, 3) := by decide +kernel
theorem dX5_preferMove_21 : decode cX5_preferMove 21 = .ok (.getfield 179, 3) := by decide +kernel
theorem dX5_preferMove_24 : decode cX5_preferMove 24 = .ok (.iconst 0, 1) := by decide +kernel
theorem dX5_preferMove_25 : decode cX5_preferMove 25 = .ok (.iaload, 1) := by decide +kernel
theorem dX5_preferMove_26 : decode cX5_preferMove 26 = .ok (.ireturn, 1) := by decide +kernel
set_option maxRecDepth 20000 in
theorem ggX5_exchange_X1_greatestCall : GoodIn wsX5_exchange wsX1_greatestCall := goodIn_r _ [11, 12, 13, 14, 15, 16, 17, 71, 72, 73, 74, 75, 76, 77, 78, 79] (by decide +kernel) (by decide +kernel)
set_option maxRecDepth 20000 in
theorem gX5_exchange_X1_greatestCall : GoodIn wsX5_exchange (wsV RX5 145 RX1 yX1_greatestCall wsX1_greatestCall) := goodIn_app (goodIn_of _ (by decide +kernel)) ggX5_exchange_X1_greatestCall
set_option maxRecDepth 20000 in
theorem ggX5_exchange_X5_beginChange : GoodIn wsX5_exchange wsX5_beginChange := goodIn_r _ [22, 23, 3, 24, 25, 26, 27, 28, 29, 30, 31, 32, 33, 34, 35, 10, 36, 12, 37, 13, 38, 39, 40, 41, 42, 43, 44, 45, 46, 47, 48, 49, 50, 51, 52, 53, 54, 59, 60, 61, 62, 63, 64, 65, 66, 67, 68, 69, 70, 80, 81, 82, 71, 72, 73, 74, 75, 76, 77, 78, 79, 83, 84, 85, 86, 87] (by decide +kernel) (by decide +kernel)
set_option maxRecDepth 20000 in
theorem gX5_exchange_X5_beginChange : GoodIn wsX5_exchange (wsV RX5 272 RX5 yX5_beginChange wsX5_beginChange) := goodIn_app (goodIn_of _ (by decide +kernel)) ggX5_exchange_X5_beginChange
set_option maxRecDepth 20000 in
theorem ggX5_exchange_X1_layAt : GoodIn wsX5_exchange wsX1_layAt := goodIn_r _ [58, 45, 46, 47, 13, 71, 72, 73, 74, 75, 76, 77, 78, 79] (by decide +kernel) (by decide +kernel)
set_option maxRecDepth 20000 in
theorem gX5_exchange_X1_layAt : GoodIn wsX5_exchange (wsV RX5 74 RX1 yX1_layAt wsX1_layAt) := goodIn_app (goodIn_of _ (by decide +kernel)) ggX5_exchange_X1_layAt
theorem dX5_exchange_0 : decode cX5_exchange 0 = .ok (.aload_n 0, 1) := by decide +kernel
theorem dX5_exchange_1 : decode cX5_exchange 1 = .ok (.getfield 12, 3) := by decide +kernel
theorem dX5_exchange_4 : decode cX5_exchange 4 = .ok (.invokevirtual 145, 3) := by decide +kernel
theorem dX5_exchange_7 : decode cX5_exchange 7 = .ok (.bipush 9, 2) := by decide +kernel
theorem dX5_exchange_9 : decode cX5_exchange 9 = .ok (.if_icmp .lt 14, 3) := by decide +kernel
theorem dX5_exchange_12 : decode cX5_exchange 12 = .ok (.new 82, 3) := by decide +kernel
theorem dX5_exchange_15 : decode cX5_exchange 15 = .ok (.dup, 1) := by decide +kernel
theorem dX5_exchange_16 : decode cX5_exchange 16 = .ok (.ldc_w 293, 3) := by decide +kernel
theorem dX5_exchange_19 : decode cX5_exchange 19 = .ok (.invokespecial 86, 3) := by decide +kernel
theorem dX5_exchange_22 : decode cX5_exchange 22 = .ok (.athrow, 1) := by decide +kernel
theorem dX5_exchange_23 : decode cX5_exchange 23 = .ok (.aload_n 0, 1) := by decide +kernel
theorem dX5_exchange_24 : decode cX5_exchange 24 = .ok (.invokevirtual 272, 3) := by decide +kernel
theorem dX5_exchange_27 : decode cX5_exchange 27 = .ok (.aload_n 0, 1) := by decide +kernel
theorem dX5_exchange_28 : decode cX5_exchange 28 = .ok (.getfield 12, 3) := by decide +kernel
theorem dX5_exchange_31 : decode cX5_exchange 31 = .ok (.dup, 1) := by decide +kernel
theorem dX5_exchange_32 : decode cX5_exchange 32 = .ok (.getfield 126, 3) := by decide +kernel
theorem dX5_exchange_35 : decode cX5_exchange 35 = .ok (.iconst 1, 1) := by decide +kernel
theorem dX5_exchange_36 : decode cX5_exchange 36 = .ok (.aload_n 0, 1) := by decide +kernel
theorem dX5_exchange_37 : decode cX5_exchange 37 = .ok (.getfield 12, 3) := by decide +kernel
theorem dX5_exchange_40 : decode cX5_exchange 40 = .ok (.getfield 114, 3) := by decide +kernel
theorem dX5_exchange_43 : decode cX5_exchange 43 = .ok (.ishl, 1) := by decide +kernel
theorem dX5_exchange_44 : decode cX5_exchange 44 = .ok (.iconst 1, 1) := by decide +kernel
theorem dX5_exchange_45 : decode cX5_exchange 45 = .ok (.isub, 1) := by decide +kernel
theorem dX5_exchange_46 : decode cX5_exchange 46 = .ok (.ixor, 1) := by decide +kernel
theorem dX5_exchange_47 : decode cX5_exchange 47 = .ok (.putfield 126, 3) := by decide +kernel
theorem dX5_exchange_50 : decode cX5_exchange 50 = .ok (.iconst 0, 1) := by decide +kernel
theorem dX5_exchange_51 : decode cX5_exchange 51 = .ok (.istore_n 1, 1) := by decide +kernel
theorem dX5_exchange_52 : decode cX5_exchange 52 = .ok (.iload_n 1, 1) := by decide +kernel
theorem dX5_exchange_53 : decode cX5_exchange 53 = .ok (.aload_n 0, 1) := by decide +kernel
theorem dX5_exchange_54 : decode cX5_exchange 54 = .ok (.getfield 12, 3) := by decide +kernel
theorem dX5_exchange_57 : decode cX5_exchange 57 = .ok (.getfield 114, 3) := by decide +kernel
theorem dX5_exchange_60 : decode cX5_exchange 60 = .ok (.if_icmp .ge 22, 3) := by decide +kernel
theorem dX5_exchange_63 : decode cX5_exchange 63 = .ok (.aload_n 0, 1) := by decide +kernel
theorem dX5_exchange_64 : decode cX5_exchange 64 = .ok (.getfield 12, 3) := by decide +kernel
theorem dX5_exchange_67 : decode cX5_exchange 67 = .ok (.getfield 162, 3) := by decide +kernel
theorem dX5_exchange_70 : decode cX5_exchange 70 = .ok (.iload_n 1, 1) := by decide +kernel
theorem dX5_exchange_71 : decode cX5_exchange 71 = .ok (.dup2, 1) := by decide +kernel
theorem dX5_exchange_72 : decode cX5_exchange 72 = .ok (.iaload, 1) := by decide +kernel
theorem dX5_exchange_73 : decode cX5_exchange 73 = .ok (.iconst 1, 1) := by decide +kernel
theorem dX5_exchange_74 : decode cX5_exchange 74 = .ok (.iadd, 1) := by decide +kernel
theorem dX5_exchange_75 : decode cX5_exchange 75 = .ok (.iastore, 1) := by decide +kernel
theorem dX5_exchange_76 : decode cX5_exchange 76 = .ok (.iinc 1 1, 3) := by decide +kernel
theorem dX5_exchange_79 : decode cX5_exchange 79 = .ok (.goto (-27), 3) := by decide +kernel
theorem dX5_exchange_82 : decode cX5_exchange 82 = .ok (.aload_n 0, 1) := by decide +kernel
theorem dX5_exchange_83 : decode cX5_exchange 83 = .ok (.getfield 12, 3) := by decide +kernel
theorem dX5_exchange_86 : decode cX5_exchange 86 = .ok (.iconst 0, 1) := by decide +kernel
theorem dX5_exchange_87 : decode cX5_exchange 87 = .ok (.invokevirtual 74, 3) := by decide +kernel
theorem dX5_exchange_90 : decode cX5_exchange 90 = .ok (.aload_n 0, 1) := by decide +kernel
theorem dX5_exchange_91 : decode cX5_exchange 91 = .ok (.getfield 12, 3) := by decide +kernel
theorem dX5_exchange_94 : decode cX5_exchange 94 = .ok (.invokevirtual 145, 3) := by decide +kernel
theorem dX5_exchange_97 : decode cX5_exchange 97 = .ok (.ireturn, 1) := by decide +kernel
set_option maxRecDepth 20000 in
theorem ggX5_lay_X5_needPlace : GoodIn wsX5_lay wsX5_needPlace := goodIn_ca (goodIn_r _ [6, 7, 8, 1, 9, 10, 11, 12, 13, 14, 113, 114, 115, 116, 117, 118, 119, 120, 121, 122, 123, 124, 125, 126, 127, 128, 129, 130, 131, 132, 133] (by decide +kernel) (by decide +kernel)) (goodIn_sub (fun _ h => List.mem_cons_of_mem _ (List.mem_append_right _ h)) (by decide +kernel))
set_option maxRecDepth 20000 in
theorem gX5_lay_X5_needPlace : GoodIn wsX5_lay (wsV RX5 156 RX5 yX5_needPlace wsX5_needPlace) := goodIn_app (goodIn_of _ (by decide +kernel)) ggX5_lay_X5_needPlace
set_option maxRecDepth 20000 in
theorem ggX5_lay_X5_beginChange : GoodIn wsX5_lay wsX5_beginChange := goodIn_r _ [18, 19, 1, 20, 21, 22, 23, 24, 25, 26, 27, 28, 29, 30, 31, 12, 32, 14, 33, 34, 35, 36, 37, 38, 39, 40, 41, 42, 43, 44, 45, 46, 47, 48, 49, 50, 51, 113, 114, 115, 116, 117, 118, 119, 120, 121, 122, 123, 124, 134, 135, 136, 125, 126, 127, 128, 129, 130, 131, 132, 133, 137, 138, 139, 140, 141] (by decide +kernel) (by decide +kernel)
set_option maxRecDepth 20000 in
theorem gX5_lay_X5_beginChange : GoodIn wsX5_lay (wsV RX5 272 RX5 yX5_beginChange wsX5_beginChange) := goodIn_app (goodIn_of _ (by decide +kernel)) ggX5_lay_X5_beginChange
set_option maxRecDepth 20000 in
theorem ggX5_lay_X1_layAt : GoodIn wsX5_lay wsX1_layAt := goodIn_r _ [55, 42, 43, 44, 34, 125, 126, 127, 128, 129, 130, 131, 132, 133] (by decide +kernel) (by decide +kernel)
set_option maxRecDepth 20000 in
theorem gX5_lay_X1_layAt : GoodIn wsX5_lay (wsV RX5 74 RX1 yX1_layAt wsX1_layAt) := goodIn_app (goodIn_of _ (by decide +kernel)) ggX5_lay_X1_layAt
set_option maxRecDepth 20000 in
theorem ggX5_lay_X5_winnerOf : GoodIn wsX5_lay wsX5_winnerOf := goodIn_r _ [59, 20, 1, 60, 61, 62, 48, 63, 50, 64, 65, 66, 67, 68, 69, 70, 71, 72, 73, 74, 75, 76, 77, 78, 79, 80, 81, 82, 83, 84, 85, 86, 87, 88, 89, 90, 91, 92, 93, 94, 95, 96, 97, 98, 99, 100, 101, 102, 103, 104, 105, 106, 107, 108, 109, 110, 111, 5, 112, 113, 114, 115, 116, 117, 118, 119, 120, 121, 122, 123, 124, 137, 138, 139, 140, 141, 125, 126, 127, 128, 129, 130, 131, 132, 133, 142, 143, 144, 145, 146] (by decide +kernel) (by decide +kernel)
set_option maxRecDepth 20000 in
theorem gX5_lay_X5_winnerOf : GoodIn wsX5_lay (wsV RX5 171 RX5 yX5_winnerOf wsX5_winnerOf) := goodIn_app (goodIn_of _ (by decide +kernel)) ggX5_lay_X5_winnerOf
theorem dX5_lay_0 : decode cX5_lay 0 = .ok (.aload_n 0, 1) := by decide +kernel
theorem dX5_lay_1 : decode cX5_lay 1 = .ok (.iload_n 1, 1) := by decide +kernel
theorem dX5_lay_2 : decode cX5_lay 2 = .ok (.invokevirtual 156, 3) := by decide +kernel
theorem dX5_lay_5 : decode cX5_lay 5 = .ok (.aload_n 0, 1) := by decide +kernel
theorem dX5_lay_6 : decode cX5_lay 6 = .ok (.invokevirtual 272, 3) := by decide +kernel
theorem dX5_lay_9 : decode cX5_lay 9 = .ok (.aload_n 0, 1) := by decide +kernel
theorem dX5_lay_10 : decode cX5_lay 10 = .ok (.getfield 12, 3) := by decide +kernel
theorem dX5_lay_13 : decode cX5_lay 13 = .ok (.iload_n 1, 1) := by decide +kernel
theorem dX5_lay_14 : decode cX5_lay 14 = .ok (.invokevirtual 74, 3) := by decide +kernel
theorem dX5_lay_17 : decode cX5_lay 17 = .ok (.aload_n 0, 1) := by decide +kernel
theorem dX5_lay_18 : decode cX5_lay 18 = .ok (.iload_n 1, 1) := by decide +kernel
theorem dX5_lay_19 : decode cX5_lay 19 = .ok (.invokevirtual 171, 3) := by decide +kernel
theorem dX5_lay_22 : decode cX5_lay 22 = .ok (.ireturn, 1) := by decide +kernel
set_option maxRecDepth 20000 in
theorem ggX5_go_X5_needMove : GoodIn wsX5_go wsX5_needMove := goodIn_ca (goodIn_r _ [11, 12, 13, 3, 14, 58, 59, 60, 61, 62, 63, 64, 65, 66, 67, 68, 69, 70, 71, 72, 73, 74, 75, 76, 77, 78] (by decide +kernel) (by decide +kernel)) (goodIn_sub (fun _ h => List.mem_cons_of_mem _ (List.mem_append_right _ h)) (by decide +kernel))
set_option maxRecDepth 20000 in
theorem gX5_go_X5_needMove : GoodIn wsX5_go (wsV RX5 174 RX5 yX5_needMove wsX5_needMove) := goodIn_app (goodIn_of _ (by decide +kernel)) ggX5_go_X5_needMove
set_option maxRecDepth 20000 in
theorem ggX5_go_X5_beginChange : GoodIn wsX5_go wsX5_beginChange := goodIn_r _ [18, 19, 3, 20, 21, 22, 23, 24, 25, 26, 27, 28, 29, 30, 31, 32, 33, 34, 35, 36, 37, 38, 39, 40, 41, 42, 43, 44, 45, 46, 47, 48, 49, 50, 51, 52, 53, 58, 59, 60, 61, 62, 63, 64, 65, 66, 67, 68, 69, 79, 80, 81, 70, 71, 72, 73, 74, 75, 76, 77, 78, 82, 83, 84, 85, 86] (by decide +kernel) (by decide +kernel)
set_option maxRecDepth 20000 in
theorem gX5_go_X5_beginChange : GoodIn wsX5_go (wsV RX5 272 RX5 yX5_beginChange wsX5_beginChange) := goodIn_app (goodIn_of _ (by decide +kernel)) ggX5_go_X5_beginChange
set_option maxRecDepth 20000 in
theorem ggX5_go_X1_step : GoodIn wsX5_go wsX1_step := goodIn_r _ [57, 43, 44, 45, 46, 36, 70, 71, 72, 73, 74, 75, 76, 77, 78] (by decide +kernel) (by decide +kernel)
set_option maxRecDepth 20000 in
theorem gX5_go_X1_step : GoodIn wsX5_go (wsV RX5 297 RX1 yX1_step wsX1_step) := goodIn_app (goodIn_of _ (by decide +kernel)) ggX5_go_X1_step
theorem dX5_go_0 : decode cX5_go 0 = .ok (.aload_n 0, 1) := by decide +kernel
theorem dX5_go_1 : decode cX5_go 1 = .ok (.iload_n 1, 1) := by decide +kernel
theorem dX5_go_2 : decode cX5_go 2 = .ok (.invokevirtual 174, 3) := by decide +kernel
theorem dX5_go_5 : decode cX5_go 5 = .ok (.aload_n 0, 1) := by decide +kernel
theorem dX5_go_6 : decode cX5_go 6 = .ok (.getfield 12, 3) := by decide +kernel
theorem dX5_go_9 : decode cX5_go 9 = .ok (.getfield 179, 3) := by decide +kernel
theorem dX5_go_12 : decode cX5_go 12 = .ok (.iload_n 1, 1) := by decide +kernel
theorem dX5_go_13 : decode cX5_go 13 = .ok (.iaload, 1) := by decide +kernel
theorem dX5_go_14 : decode cX5_go 14 = .ok (.aload_n 0, 1) := by decide +kernel
theorem dX5_go_15 : decode cX5_go 15 = .ok (.getfield 12, 3) := by decide +kernel
theorem dX5_go_18 : decode cX5_go 18 = .ok (.getfield 148, 3) := by decide +kernel
theorem dX5_go_21 : decode cX5_go 21 = .ok (.if_icmp .eq 14, 3) := by decide +kernel
theorem dX5_go_24 : decode cX5_go 24 = .ok (.new 82, 3) := by decide +kernel
theorem dX5_go_27 : decode cX5_go 27 = .ok (.dup, 1) := by decide +kernel
theorem dX5_go_28 : decode cX5_go 28 = .ok (.ldc_w 295, 3) := by decide +kernel
theorem dX5_go_31 : decode cX5_go 31 = .ok (.invokespecial 86, 3) := by decide +kernel
theorem dX5_go_34 : decode cX5_go 34 = .ok (.athrow, 1) := by decide +kernel
theorem dX5_go_35 : decode cX5_go 35 = .ok (.aload_n 0, 1) := by decide +kernel
theorem dX5_go_36 : decode cX5_go 36 = .ok (.invokevirtual 272, 3) := by decide +kernel
theorem dX5_go_39 : decode cX5_go 39 = .ok (.aload_n 0, 1) := by decide +kernel
theorem dX5_go_40 : decode cX5_go 40 = .ok (.getfield 12, 3) := by decide +kernel
theorem dX5_go_43 : decode cX5_go 43 = .ok (.iload_n 1, 1) := by decide +kernel
theorem dX5_go_44 : decode cX5_go 44 = .ok (.invokevirtual 297, 3) := by decide +kernel
theorem dX5_go_47 : decode cX5_go 47 = .ok (.aload_n 0, 1) := by decide +kernel
theorem dX5_go_48 : decode cX5_go 48 = .ok (.getfield 12, 3) := by decide +kernel
theorem dX5_go_51 : decode cX5_go 51 = .ok (.getfield 162, 3) := by decide +kernel
theorem dX5_go_54 : decode cX5_go 54 = .ok (.aload_n 0, 1) := by decide +kernel
theorem dX5_go_55 : decode cX5_go 55 = .ok (.getfield 12, 3) := by decide +kernel
theorem dX5_go_58 : decode cX5_go 58 = .ok (.getfield 148, 3) := by decide +kernel
theorem dX5_go_61 : decode cX5_go 61 = .ok (.iaload, 1) := by decide +kernel
theorem dX5_go_62 : decode cX5_go 62 = .ok (.ireturn, 1) := by decide +kernel
set_option maxRecDepth 20000 in
theorem ggX5_run_X5_beginChange : GoodIn wsX5_run wsX5_beginChange := goodIn_r _ [11, 12, 4, 3, 13, 14, 15, 16, 17, 18, 19, 20, 21, 22, 23, 24, 25, 26, 27, 28, 29, 30, 31, 32, 33, 34, 35, 36, 37, 38, 39, 40, 41, 42, 43, 44, 45, 123, 124, 125, 126, 127, 128, 129, 130, 131, 132, 133, 134, 149, 150, 151, 140, 141, 142, 143, 144, 145, 146, 147, 148, 135, 136, 137, 138, 139] (by decide +kernel) (by decide +kernel)
set_option maxRecDepth 20000 in
theorem gX5_run_X5_beginChange : GoodIn wsX5_run (wsV RX5 272 RX5 yX5_beginChange wsX5_beginChange) := goodIn_app (goodIn_of _ (by decide +kernel)) ggX5_run_X5_beginChange
set_option maxRecDepth 20000 in
theorem ggX5_run_X3_choose : GoodIn wsX5_run wsX3_choose := goodIn_r _ [49, 45, 50, 51, 52, 53, 54, 55, 42, 56, 44, 57, 58, 59, 60, 61, 62, 63, 64, 65, 66, 67, 68, 69, 70, 71, 72, 73, 74, 75, 76, 77, 78, 79, 80, 81, 82, 83, 84, 85, 86, 87, 88, 89, 90, 91, 92, 93, 94, 95, 96, 97, 98, 99, 100, 101, 102, 103, 24, 104, 27, 105, 10, 106, 107, 108, 109, 110, 111, 112, 113, 114, 115, 116, 117, 118, 33, 34, 135, 136, 137, 138, 139, 140, 141, 142, 143, 144, 145, 146, 147, 148, 152, 153, 154, 155, 156] (by decide +kernel) (by decide +kernel)
set_option maxRecDepth 20000 in
theorem gX5_run_X3_choose : GoodIn wsX5_run (wsV RX5 214 RX3 yX3_choose wsX3_choose) := goodIn_app (goodIn_of _ (by decide +kernel)) ggX5_run_X3_choose
set_option maxRecDepth 20000 in
theorem ggX5_run_X1_step : GoodIn wsX5_run wsX1_step := goodIn_r _ [122, 35, 36, 37, 38, 28, 140, 141, 142, 143, 144, 145, 146, 147, 148] (by decide +kernel) (by decide +kernel)
set_option maxRecDepth 20000 in
theorem gX5_run_X1_step : GoodIn wsX5_run (wsV RX5 297 RX1 yX1_step wsX1_step) := goodIn_app (goodIn_of _ (by decide +kernel)) ggX5_run_X1_step
theorem dX5_run_0 : decode cX5_run 0 = .ok (.iload_n 1, 1) := by decide +kernel
theorem dX5_run_1 : decode cX5_run 1 = .ok (.iconst 1, 1) := by decide +kernel
theorem dX5_run_2 : decode cX5_run 2 = .ok (.if_icmp .lt 9, 3) := by decide +kernel
theorem dX5_run_5 : decode cX5_run 5 = .ok (.iload_n 1, 1) := by decide +kernel
theorem dX5_run_6 : decode cX5_run 6 = .ok (.bipush 100, 2) := by decide +kernel
theorem dX5_run_8 : decode cX5_run 8 = .ok (.if_icmp .le 13, 3) := by decide +kernel
theorem dX5_run_11 : decode cX5_run 11 = .ok (.new 92, 3) := by decide +kernel
theorem dX5_run_14 : decode cX5_run 14 = .ok (.dup, 1) := by decide +kernel
theorem dX5_run_15 : decode cX5_run 15 = .ok (.ldc 220, 2) := by decide +kernel
theorem dX5_run_17 : decode cX5_run 17 = .ok (.invokespecial 96, 3) := by decide +kernel
theorem dX5_run_20 : decode cX5_run 20 = .ok (.athrow, 1) := by decide +kernel
theorem dX5_run_21 : decode cX5_run 21 = .ok (.aload_n 0, 1) := by decide +kernel
theorem dX5_run_22 : decode cX5_run 22 = .ok (.invokevirtual 272, 3) := by decide +kernel
theorem dX5_run_25 : decode cX5_run 25 = .ok (.aload_n 0, 1) := by decide +kernel
theorem dX5_run_26 : decode cX5_run 26 = .ok (.getfield 56, 3) := by decide +kernel
theorem dX5_run_29 : decode cX5_run 29 = .ok (.aload_n 0, 1) := by decide +kernel
theorem dX5_run_30 : decode cX5_run 30 = .ok (.getfield 12, 3) := by decide +kernel
theorem dX5_run_33 : decode cX5_run 33 = .ok (.invokevirtual 214, 3) := by decide +kernel
theorem dX5_run_36 : decode cX5_run 36 = .ok (.iconst 0, 1) := by decide +kernel
theorem dX5_run_37 : decode cX5_run 37 = .ok (.istore_n 2, 1) := by decide +kernel
theorem dX5_run_38 : decode cX5_run 38 = .ok (.iload_n 2, 1) := by decide +kernel
theorem dX5_run_39 : decode cX5_run 39 = .ok (.iload_n 1, 1) := by decide +kernel
theorem dX5_run_40 : decode cX5_run 40 = .ok (.if_icmp .ge 40, 3) := by decide +kernel
theorem dX5_run_43 : decode cX5_run 43 = .ok (.aload_n 0, 1) := by decide +kernel
theorem dX5_run_44 : decode cX5_run 44 = .ok (.getfield 56, 3) := by decide +kernel
theorem dX5_run_47 : decode cX5_run 47 = .ok (.getfield 217, 3) := by decide +kernel
theorem dX5_run_50 : decode cX5_run 50 = .ok (.aload_n 0, 1) := by decide +kernel
theorem dX5_run_51 : decode cX5_run 51 = .ok (.getfield 12, 3) := by decide +kernel
theorem dX5_run_54 : decode cX5_run 54 = .ok (.getfield 148, 3) := by decide +kernel
theorem dX5_run_57 : decode cX5_run 57 = .ok (.iaload, 1) := by decide +kernel
theorem dX5_run_58 : decode cX5_run 58 = .ok (.istore_n 3, 1) := by decide +kernel
theorem dX5_run_59 : decode cX5_run 59 = .ok (.iload_n 3, 1) := by decide +kernel
theorem dX5_run_60 : decode cX5_run 60 = .ok (.iconst (-1), 1) := by decide +kernel
theorem dX5_run_61 : decode cX5_run 61 = .ok (.if_icmp .ne 5, 3) := by decide +kernel
theorem dX5_run_64 : decode cX5_run 64 = .ok (.iload_n 2, 1) := by decide +kernel
theorem dX5_run_65 : decode cX5_run 65 = .ok (.ireturn, 1) := by decide +kernel
theorem dX5_run_66 : decode cX5_run 66 = .ok (.aload_n 0, 1) := by decide +kernel
theorem dX5_run_67 : decode cX5_run 67 = .ok (.getfield 12, 3) := by decide +kernel
theorem dX5_run_70 : decode cX5_run 70 = .ok (.iload_n 3, 1) := by decide +kernel
theorem dX5_run_71 : decode cX5_run 71 = .ok (.invokevirtual 297, 3) := by decide +kernel
theorem dX5_run_74 : decode cX5_run 74 = .ok (.iinc 2 1, 3) := by decide +kernel
theorem dX5_run_77 : decode cX5_run 77 = .ok (.goto (-39), 3) := by decide +kernel
theorem dX5_run_80 : decode cX5_run 80 = .ok (.iload_n 1, 1) := by decide +kernel
theorem dX5_run_81 : decode cX5_run 81 = .ok (.ireturn, 1) := by decide +kernel
set_option maxRecDepth 20000 in
theorem ggX5_restore_X5_needSlot : GoodIn wsX5_restore wsX5_needSlot := goodIn_ca (goodIn_r _ [10, 11, 12] (by decide +kernel) (by decide +kernel)) (goodIn_sub (fun _ h => List.mem_cons_of_mem _ (List.mem_append_right _ h)) (by decide +kernel))
set_option maxRecDepth 20000 in
theorem gX5_restore_X5_needSlot : GoodIn wsX5_restore (va_wsS RX5 300 yX5_needSlot wsX5_needSlot) := goodIn_app (goodIn_of _ (by decide +kernel)) ggX5_restore_X5_needSlot
set_option maxRecDepth 20000 in
theorem ggX5_restore_X5_beginChange : GoodIn wsX5_restore wsX5_beginChange := goodIn_r _ [16, 17, 4, 18, 19, 20, 21, 22, 23, 24, 25, 26, 27, 28, 29, 30, 31, 32, 33, 34, 35, 36, 37, 38, 39, 40, 41, 42, 43, 44, 45, 46, 47, 48, 49, 50, 51, 53, 54, 55, 56, 57, 58, 59, 60, 61, 62, 63, 64, 74, 75, 76, 65, 66, 67, 68, 69, 70, 71, 72, 73, 77, 78, 79, 80, 81] (by decide +kernel) (by decide +kernel)
set_option maxRecDepth 20000 in
theorem gX5_restore_X5_beginChange : GoodIn wsX5_restore (wsV RX5 272 RX5 yX5_beginChange wsX5_beginChange) := goodIn_app (goodIn_of _ (by decide +kernel)) ggX5_restore_X5_beginChange
set_option maxRecDepth 20000 in
theorem ggX5_restore_X1_copy : GoodIn wsX5_restore wsX1_copy := goodIn_r _ [31, 32, 33, 34, 35, 36, 37, 38, 39, 40, 41, 42, 43, 44, 65, 66, 67, 68, 69, 70, 71, 72, 73] (by decide +kernel) (by decide +kernel)
set_option maxRecDepth 20000 in
theorem gX5_restore_X1_copy : GoodIn wsX5_restore (wsV RX5 104 RX1 yX1_copy wsX1_copy) := goodIn_app (goodIn_of _ (by decide +kernel)) ggX5_restore_X1_copy
theorem dX5_restore_0 : decode cX5_restore 0 = .ok (.iload_n 1, 1) := by decide +kernel
theorem dX5_restore_1 : decode cX5_restore 1 = .ok (.invokestatic 300, 3) := by decide +kernel
theorem dX5_restore_4 : decode cX5_restore 4 = .ok (.aload_n 0, 1) := by decide +kernel
theorem dX5_restore_5 : decode cX5_restore 5 = .ok (.getfield 40, 3) := by decide +kernel
theorem dX5_restore_8 : decode cX5_restore 8 = .ok (.iload_n 1, 1) := by decide +kernel
theorem dX5_restore_9 : decode cX5_restore 9 = .ok (.baload, 1) := by decide +kernel
theorem dX5_restore_10 : decode cX5_restore 10 = .ok (.ifCond .ne 14, 3) := by decide +kernel
theorem dX5_restore_13 : decode cX5_restore 13 = .ok (.new 82, 3) := by decide +kernel
theorem dX5_restore_16 : decode cX5_restore 16 = .ok (.dup, 1) := by decide +kernel
theorem dX5_restore_17 : decode cX5_restore 17 = .ok (.ldc_w 303, 3) := by decide +kernel
theorem dX5_restore_20 : decode cX5_restore 20 = .ok (.invokespecial 86, 3) := by decide +kernel
theorem dX5_restore_23 : decode cX5_restore 23 = .ok (.athrow, 1) := by decide +kernel
theorem dX5_restore_24 : decode cX5_restore 24 = .ok (.aload_n 0, 1) := by decide +kernel
theorem dX5_restore_25 : decode cX5_restore 25 = .ok (.invokevirtual 272, 3) := by decide +kernel
theorem dX5_restore_28 : decode cX5_restore 28 = .ok (.aload_n 0, 1) := by decide +kernel
theorem dX5_restore_29 : decode cX5_restore 29 = .ok (.getfield 12, 3) := by decide +kernel
theorem dX5_restore_32 : decode cX5_restore 32 = .ok (.aload_n 0, 1) := by decide +kernel
theorem dX5_restore_33 : decode cX5_restore 33 = .ok (.getfield 36, 3) := by decide +kernel
theorem dX5_restore_36 : decode cX5_restore 36 = .ok (.iload_n 1, 1) := by decide +kernel
theorem dX5_restore_37 : decode cX5_restore 37 = .ok (.aaload, 1) := by decide +kernel
theorem dX5_restore_38 : decode cX5_restore 38 = .ok (.invokevirtual 104, 3) := by decide +kernel
theorem dX5_restore_41 : decode cX5_restore 41 = .ok (.aload_n 0, 1) := by decide +kernel
theorem dX5_restore_42 : decode cX5_restore 42 = .ok (.getfield 12, 3) := by decide +kernel
theorem dX5_restore_45 : decode cX5_restore 45 = .ok (.getfield 114, 3) := by decide +kernel
theorem dX5_restore_48 : decode cX5_restore 48 = .ok (.ireturn, 1) := by decide +kernel
set_option maxRecDepth 20000 in
theorem ggX5_undo_X3_forget : GoodIn wsX5_undo wsX3_forget := goodIn_r _ [11, 12, 13, 55, 56, 57, 58, 59] (by decide +kernel) (by decide +kernel)
set_option maxRecDepth 20000 in
theorem gX5_undo_X3_forget : GoodIn wsX5_undo (wsV RX5 108 RX3 yX3_forget wsX3_forget) := goodIn_app (goodIn_of _ (by decide +kernel)) ggX5_undo_X3_forget
set_option maxRecDepth 20000 in
theorem ggX5_undo_X2_takeLatest : GoodIn wsX5_undo wsX2_takeLatest := goodIn_r _ [18, 19, 20, 21, 22, 23, 24, 25, 26, 27, 28, 29, 30, 31, 32, 33, 34, 35, 36, 37, 38, 39, 52, 53, 54, 60, 61, 62, 63, 64, 65, 66, 67, 68] (by decide +kernel) (by decide +kernel)
set_option maxRecDepth 20000 in
theorem gX5_undo_X2_takeLatest : GoodIn wsX5_undo (wsV RX5 310 RX2 yX2_takeLatest wsX2_takeLatest) := goodIn_app (goodIn_of _ (by decide +kernel)) ggX5_undo_X2_takeLatest
theorem dX5_undo_0 : decode cX5_undo 0 = .ok (.aload_n 0, 1) := by decide +kernel
theorem dX5_undo_1 : decode cX5_undo 1 = .ok (.getfield 32, 3) := by decide +kernel
theorem dX5_undo_4 : decode cX5_undo 4 = .ok (.getfield 305, 3) := by decide +kernel
theorem dX5_undo_7 : decode cX5_undo 7 = .ok (.ifCond .ne 14, 3) := by decide +kernel
theorem dX5_undo_10 : decode cX5_undo 10 = .ok (.new 82, 3) := by decide +kernel
theorem dX5_undo_13 : decode cX5_undo 13 = .ok (.dup, 1) := by decide +kernel
theorem dX5_undo_14 : decode cX5_undo 14 = .ok (.ldc_w 308, 3) := by decide +kernel
theorem dX5_undo_17 : decode cX5_undo 17 = .ok (.invokespecial 86, 3) := by decide +kernel
theorem dX5_undo_20 : decode cX5_undo 20 = .ok (.athrow, 1) := by decide +kernel
theorem dX5_undo_21 : decode cX5_undo 21 = .ok (.aload_n 0, 1) := by decide +kernel
theorem dX5_undo_22 : decode cX5_undo 22 = .ok (.getfield 56, 3) := by decide +kernel
theorem dX5_undo_25 : decode cX5_undo 25 = .ok (.invokevirtual 108, 3) := by decide +kernel
theorem dX5_undo_28 : decode cX5_undo 28 = .ok (.aload_n 0, 1) := by decide +kernel
theorem dX5_undo_29 : decode cX5_undo 29 = .ok (.getfield 32, 3) := by decide +kernel
theorem dX5_undo_32 : decode cX5_undo 32 = .ok (.aload_n 0, 1) := by decide +kernel
theorem dX5_undo_33 : decode cX5_undo 33 = .ok (.getfield 12, 3) := by decide +kernel
theorem dX5_undo_36 : decode cX5_undo 36 = .ok (.invokevirtual 310, 3) := by decide +kernel
theorem dX5_undo_39 : decode cX5_undo 39 = .ok (.aload_n 0, 1) := by decide +kernel
theorem dX5_undo_40 : decode cX5_undo 40 = .ok (.getfield 32, 3) := by decide +kernel
theorem dX5_undo_43 : decode cX5_undo 43 = .ok (.getfield 305, 3) := by decide +kernel
theorem dX5_undo_46 : decode cX5_undo 46 = .ok (.ireturn, 1) := by decide +kernel
set_option maxRecDepth 20000 in
theorem ggX5_save_X5_needSlot : GoodIn wsX5_save wsX5_needSlot := goodIn_ca (goodIn_r _ [7, 8, 9] (by decide +kernel) (by decide +kernel)) (goodIn_sub (fun _ h => List.mem_cons_of_mem _ (List.mem_append_right _ h)) (by decide +kernel))
set_option maxRecDepth 20000 in
theorem gX5_save_X5_needSlot : GoodIn wsX5_save (va_wsS RX5 300 yX5_needSlot wsX5_needSlot) := goodIn_app (goodIn_of _ (by decide +kernel)) ggX5_save_X5_needSlot
set_option maxRecDepth 20000 in
theorem ggX5_save_X1_copy : GoodIn wsX5_save wsX1_copy := goodIn_r _ [14, 15, 16, 17, 18, 19, 20, 21, 22, 23, 24, 25, 26, 27, 40, 41, 42, 43, 44, 45, 46, 47, 48] (by decide +kernel) (by decide +kernel)
set_option maxRecDepth 20000 in
theorem gX5_save_X1_copy : GoodIn wsX5_save (wsV RX5 104 RX1 yX1_copy wsX1_copy) := goodIn_app (goodIn_of _ (by decide +kernel)) ggX5_save_X1_copy
theorem dX5_save_0 : decode cX5_save 0 = .ok (.iload_n 1, 1) := by decide +kernel
theorem dX5_save_1 : decode cX5_save 1 = .ok (.invokestatic 300, 3) := by decide +kernel
theorem dX5_save_4 : decode cX5_save 4 = .ok (.aload_n 0, 1) := by decide +kernel
theorem dX5_save_5 : decode cX5_save 5 = .ok (.getfield 36, 3) := by decide +kernel
theorem dX5_save_8 : decode cX5_save 8 = .ok (.iload_n 1, 1) := by decide +kernel
theorem dX5_save_9 : decode cX5_save 9 = .ok (.aaload, 1) := by decide +kernel
theorem dX5_save_10 : decode cX5_save 10 = .ok (.aload_n 0, 1) := by decide +kernel
theorem dX5_save_11 : decode cX5_save 11 = .ok (.getfield 12, 3) := by decide +kernel
theorem dX5_save_14 : decode cX5_save 14 = .ok (.invokevirtual 104, 3) := by decide +kernel
theorem dX5_save_17 : decode cX5_save 17 = .ok (.aload_n 0, 1) := by decide +kernel
theorem dX5_save_18 : decode cX5_save 18 = .ok (.getfield 40, 3) := by decide +kernel
theorem dX5_save_21 : decode cX5_save 21 = .ok (.iload_n 1, 1) := by decide +kernel
theorem dX5_save_22 : decode cX5_save 22 = .ok (.iconst 1, 1) := by decide +kernel
theorem dX5_save_23 : decode cX5_save 23 = .ok (.bastore, 1) := by decide +kernel
theorem dX5_save_24 : decode cX5_save 24 = .ok (.iconst 0, 1) := by decide +kernel
theorem dX5_save_25 : decode cX5_save 25 = .ok (.istore_n 2, 1) := by decide +kernel
theorem dX5_save_26 : decode cX5_save 26 = .ok (.iconst 0, 1) := by decide +kernel
theorem dX5_save_27 : decode cX5_save 27 = .ok (.istore_n 3, 1) := by decide +kernel
theorem dX5_save_28 : decode cX5_save 28 = .ok (.iload_n 3, 1) := by decide +kernel
theorem dX5_save_29 : decode cX5_save 29 = .ok (.iconst 2, 1) := by decide +kernel
theorem dX5_save_30 : decode cX5_save 30 = .ok (.if_icmp .ge 21, 3) := by decide +kernel
theorem dX5_save_33 : decode cX5_save 33 = .ok (.aload_n 0, 1) := by decide +kernel
theorem dX5_save_34 : decode cX5_save 34 = .ok (.getfield 40, 3) := by decide +kernel
theorem dX5_save_37 : decode cX5_save 37 = .ok (.iload_n 3, 1) := by decide +kernel
theorem dX5_save_38 : decode cX5_save 38 = .ok (.baload, 1) := by decide +kernel
theorem dX5_save_39 : decode cX5_save 39 = .ok (.ifCond .eq 6, 3) := by decide +kernel
theorem dX5_save_42 : decode cX5_save 42 = .ok (.iinc 2 1, 3) := by decide +kernel
theorem dX5_save_45 : decode cX5_save 45 = .ok (.iinc 3 1, 3) := by decide +kernel
theorem dX5_save_48 : decode cX5_save 48 = .ok (.goto (-20), 3) := by decide +kernel
theorem dX5_save_51 : decode cX5_save 51 = .ok (.iload_n 2, 1) := by decide +kernel
theorem dX5_save_52 : decode cX5_save 52 = .ok (.ireturn, 1) := by decide +kernel
theorem dX5_has_0 : decode cX5_has 0 = .ok (.iload_n 0, 1) := by decide +kernel
theorem dX5_has_1 : decode cX5_has 1 = .ok (.iload_n 1, 1) := by decide +kernel
theorem dX5_has_2 : decode cX5_has 2 = .ok (.iushr, 1) := by decide +kernel
theorem dX5_has_3 : decode cX5_has 3 = .ok (.iconst 1, 1) := by decide +kernel
theorem dX5_has_4 : decode cX5_has 4 = .ok (.iand, 1) := by decide +kernel
theorem dX5_has_5 : decode cX5_has 5 = .ok (.ifCond .eq 7, 3) := by decide +kernel
theorem dX5_has_8 : decode cX5_has 8 = .ok (.iconst 1, 1) := by decide +kernel
theorem dX5_has_9 : decode cX5_has 9 = .ok (.goto 4, 3) := by decide +kernel
theorem dX5_has_12 : decode cX5_has 12 = .ok (.iconst 0, 1) := by decide +kernel
theorem dX5_has_13 : decode cX5_has 13 = .ok (.ireturn, 1) := by decide +kernel
set_option maxRecDepth 20000 in
theorem ggX5_needPlace_X1_hasPlace : GoodIn wsX5_needPlace wsX1_hasPlace := goodIn_r _ [8, 9, 22, 23, 24, 25, 26, 27, 28, 29, 30] (by decide +kernel) (by decide +kernel)
set_option maxRecDepth 20000 in
theorem gX5_needPlace_X1_hasPlace : GoodIn wsX5_needPlace (wsV RX5 327 RX1 yX1_hasPlace wsX1_hasPlace) := goodIn_app (goodIn_of _ (by decide +kernel)) ggX5_needPlace_X1_hasPlace
theorem dX5_needPlace_0 : decode cX5_needPlace 0 = .ok (.aload_n 0, 1) := by decide +kernel
theorem dX5_needPlace_1 : decode cX5_needPlace 1 = .ok (.getfield 12, 3) := by decide +kernel
theorem dX5_needPlace_4 : decode cX5_needPlace 4 = .ok (.iload_n 1, 1) := by decide +kernel
theorem dX5_needPlace_5 : decode cX5_needPlace 5 = .ok (.invokevirtual 327, 3) := by decide +kernel
theorem dX5_needPlace_8 : decode cX5_needPlace 8 = .ok (.ifCond .ne 14, 3) := by decide +kernel
theorem dX5_needPlace_11 : decode cX5_needPlace 11 = .ok (.new 330, 3) := by decide +kernel
theorem dX5_needPlace_14 : decode cX5_needPlace 14 = .ok (.dup, 1) := by decide +kernel
theorem dX5_needPlace_15 : decode cX5_needPlace 15 = .ok (.ldc_w 332, 3) := by decide +kernel
theorem dX5_needPlace_18 : decode cX5_needPlace 18 = .ok (.invokespecial 334, 3) := by decide +kernel
theorem dX5_needPlace_21 : decode cX5_needPlace 21 = .ok (.athrow, 1) := by decide +kernel
theorem dX5_needPlace_22 : decode cX5_needPlace 22 = .ok (.return_, 1) := by decide +kernel
theorem dX5_needMove_0 : decode cX5_needMove 0 = .ok (.iload_n 1, 1) := by decide +kernel
theorem dX5_needMove_1 : decode cX5_needMove 1 = .ok (.ifCond .lt 14, 3) := by decide +kernel
theorem dX5_needMove_4 : decode cX5_needMove 4 = .ok (.iload_n 1, 1) := by decide +kernel
theorem dX5_needMove_5 : decode cX5_needMove 5 = .ok (.aload_n 0, 1) := by decide +kernel
theorem dX5_needMove_6 : decode cX5_needMove 6 = .ok (.getfield 12, 3) := by decide +kernel
theorem dX5_needMove_9 : decode cX5_needMove 9 = .ok (.getfield 123, 3) := by decide +kernel
theorem dX5_needMove_12 : decode cX5_needMove 12 = .ok (.if_icmp .lt 14, 3) := by decide +kernel
theorem dX5_needMove_15 : decode cX5_needMove 15 = .ok (.new 330, 3) := by decide +kernel
theorem dX5_needMove_18 : decode cX5_needMove 18 = .ok (.dup, 1) := by decide +kernel
theorem dX5_needMove_19 : decode cX5_needMove 19 = .ok (.ldc_w 335, 3) := by decide +kernel
theorem dX5_needMove_22 : decode cX5_needMove 22 = .ok (.invokespecial 334, 3) := by decide +kernel
theorem dX5_needMove_25 : decode cX5_needMove 25 = .ok (.athrow, 1) := by decide +kernel
theorem dX5_needMove_26 : decode cX5_needMove 26 = .ok (.return_, 1) := by decide +kernel
theorem dX5_needSet_0 : decode cX5_needSet 0 = .ok (.iload_n 1, 1) := by decide +kernel
theorem dX5_needSet_1 : decode cX5_needSet 1 = .ok (.ifCond .lt 15, 3) := by decide +kernel
theorem dX5_needSet_4 : decode cX5_needSet 4 = .ok (.iload_n 1, 1) := by decide +kernel
theorem dX5_needSet_5 : decode cX5_needSet 5 = .ok (.aload_n 0, 1) := by decide +kernel
theorem dX5_needSet_6 : decode cX5_needSet 6 = .ok (.getfield 12, 3) := by decide +kernel
theorem dX5_needSet_9 : decode cX5_needSet 9 = .ok (.getfield 114, 3) := by decide +kernel
theorem dX5_needSet_12 : decode cX5_needSet 12 = .ok (.iushr, 1) := by decide +kernel
theorem dX5_needSet_13 : decode cX5_needSet 13 = .ok (.ifCond .eq 14, 3) := by decide +kernel
theorem dX5_needSet_16 : decode cX5_needSet 16 = .ok (.new 92, 3) := by decide +kernel
theorem dX5_needSet_19 : decode cX5_needSet 19 = .ok (.dup, 1) := by decide +kernel
theorem dX5_needSet_20 : decode cX5_needSet 20 = .ok (.ldc_w 337, 3) := by decide +kernel
theorem dX5_needSet_23 : decode cX5_needSet 23 = .ok (.invokespecial 96, 3) := by decide +kernel
theorem dX5_needSet_26 : decode cX5_needSet 26 = .ok (.athrow, 1) := by decide +kernel
theorem dX5_needSet_27 : decode cX5_needSet 27 = .ok (.return_, 1) := by decide +kernel
theorem dX5_needPlayer_0 : decode cX5_needPlayer 0 = .ok (.iload_n 0, 1) := by decide +kernel
theorem dX5_needPlayer_1 : decode cX5_needPlayer 1 = .ok (.ifCond .eq 19, 3) := by decide +kernel
theorem dX5_needPlayer_4 : decode cX5_needPlayer 4 = .ok (.iload_n 0, 1) := by decide +kernel
theorem dX5_needPlayer_5 : decode cX5_needPlayer 5 = .ok (.iconst 1, 1) := by decide +kernel
theorem dX5_needPlayer_6 : decode cX5_needPlayer 6 = .ok (.if_icmp .eq 14, 3) := by decide +kernel
theorem dX5_needPlayer_9 : decode cX5_needPlayer 9 = .ok (.new 92, 3) := by decide +kernel
theorem dX5_needPlayer_12 : decode cX5_needPlayer 12 = .ok (.dup, 1) := by decide +kernel
theorem dX5_needPlayer_13 : decode cX5_needPlayer 13 = .ok (.ldc_w 339, 3) := by decide +kernel
theorem dX5_needPlayer_16 : decode cX5_needPlayer 16 = .ok (.invokespecial 96, 3) := by decide +kernel
theorem dX5_needPlayer_19 : decode cX5_needPlayer 19 = .ok (.athrow, 1) := by decide +kernel
theorem dX5_needPlayer_20 : decode cX5_needPlayer 20 = .ok (.return_, 1) := by decide +kernel
theorem dX5_needCall_0 : decode cX5_needCall 0 = .ok (.iload_n 0, 1) := by decide +kernel
theorem dX5_needCall_1 : decode cX5_needCall 1 = .ok (.ifCond .lt 9, 3) := by decide +kernel
theorem dX5_needCall_4 : decode cX5_needCall 4 = .ok (.iload_n 0, 1) := by decide +kernel
theorem dX5_needCall_5 : decode cX5_needCall 5 = .ok (.bipush 10, 2) := by decide +kernel
theorem dX5_needCall_7 : decode cX5_needCall 7 = .ok (.if_icmp .lt 14, 3) := by decide +kernel
theorem dX5_needCall_10 : decode cX5_needCall 10 = .ok (.new 92, 3) := by decide +kernel
theorem dX5_needCall_13 : decode cX5_needCall 13 = .ok (.dup, 1) := by decide +kernel
theorem dX5_needCall_14 : decode cX5_needCall 14 = .ok (.ldc_w 341, 3) := by decide +kernel
theorem dX5_needCall_17 : decode cX5_needCall 17 = .ok (.invokespecial 96, 3) := by decide +kernel
theorem dX5_needCall_20 : decode cX5_needCall 20 = .ok (.athrow, 1) := by decide +kernel
theorem dX5_needCall_21 : decode cX5_needCall 21 = .ok (.return_, 1) := by decide +kernel
theorem dX5_needSlot_0 : decode cX5_needSlot 0 = .ok (.iload_n 0, 1) := by decide +kernel
theorem dX5_needSlot_1 : decode cX5_needSlot 1 = .ok (.ifCond .lt 8, 3) := by decide +kernel
theorem dX5_needSlot_4 : decode cX5_needSlot 4 = .ok (.iload_n 0, 1) := by decide +kernel
theorem dX5_needSlot_5 : decode cX5_needSlot 5 = .ok (.iconst 2, 1) := by decide +kernel
theorem dX5_needSlot_6 : decode cX5_needSlot 6 = .ok (.if_icmp .lt 14, 3) := by decide +kernel
theorem dX5_needSlot_9 : decode cX5_needSlot 9 = .ok (.new 92, 3) := by decide +kernel
theorem dX5_needSlot_12 : decode cX5_needSlot 12 = .ok (.dup, 1) := by decide +kernel
theorem dX5_needSlot_13 : decode cX5_needSlot 13 = .ok (.ldc_w 343, 3) := by decide +kernel
theorem dX5_needSlot_16 : decode cX5_needSlot 16 = .ok (.invokespecial 96, 3) := by decide +kernel
theorem dX5_needSlot_19 : decode cX5_needSlot 19 = .ok (.athrow, 1) := by decide +kernel
theorem dX5_needSlot_20 : decode cX5_needSlot 20 = .ok (.return_, 1) := by decide +kernel
set_option maxRecDepth 20000 in
theorem ggX5_beginChange_X2_keep : GoodIn wsX5_beginChange wsX2_keep := goodIn_r _ [8, 9, 10, 11, 12, 13, 14, 15, 16, 17, 18, 19, 20, 21, 22, 23, 24, 25, 26, 27, 28, 29, 49, 50, 51, 52, 53, 54, 55, 56, 57, 58, 59, 60] (by decide +kernel) (by decide +kernel)
set_option maxRecDepth 20000 in
theorem gX5_beginChange_X2_keep : GoodIn wsX5_beginChange (wsV RX5 345 RX2 yX2_keep wsX2_keep) := goodIn_app (goodIn_of _ (by decide +kernel)) ggX5_beginChange_X2_keep
set_option maxRecDepth 20000 in
theorem ggX5_beginChange_X3_forget : GoodIn wsX5_beginChange wsX3_forget := goodIn_r _ [34, 35, 36, 61, 62, 63, 64, 65] (by decide +kernel) (by decide +kernel)
set_option maxRecDepth 20000 in
theorem gX5_beginChange_X3_forget : GoodIn wsX5_beginChange (wsV RX5 108 RX3 yX3_forget wsX3_forget) := goodIn_app (goodIn_of _ (by decide +kernel)) ggX5_beginChange_X3_forget
theorem dX5_beginChange_0 : decode cX5_beginChange 0 = .ok (.aload_n 0, 1) := by decide +kernel
theorem dX5_beginChange_1 : decode cX5_beginChange 1 = .ok (.getfield 32, 3) := by decide +kernel
theorem dX5_beginChange_4 : decode cX5_beginChange 4 = .ok (.aload_n 0, 1) := by decide +kernel
theorem dX5_beginChange_5 : decode cX5_beginChange 5 = .ok (.getfield 12, 3) := by decide +kernel
theorem dX5_beginChange_8 : decode cX5_beginChange 8 = .ok (.invokevirtual 345, 3) := by decide +kernel
theorem dX5_beginChange_11 : decode cX5_beginChange 11 = .ok (.aload_n 0, 1) := by decide +kernel
theorem dX5_beginChange_12 : decode cX5_beginChange 12 = .ok (.getfield 56, 3) := by decide +kernel
theorem dX5_beginChange_15 : decode cX5_beginChange 15 = .ok (.invokevirtual 108, 3) := by decide +kernel
theorem dX5_beginChange_18 : decode cX5_beginChange 18 = .ok (.return_, 1) := by decide +kernel
set_option maxRecDepth 20000 in
theorem ggX5_winnerOf_X3_wonBy : GoodIn wsX5_winnerOf wsX3_wonBy := goodIn_r _ [7, 8, 9, 10, 11, 12, 13, 14, 15, 16, 17, 18, 19, 20, 21, 22, 23, 24, 25, 26, 27, 28, 29, 30, 31, 32, 33, 34, 35, 36, 37, 38, 39, 40, 41, 42, 43, 44, 45, 46, 47, 48, 49, 50, 51, 52, 53, 54, 71, 72, 73, 74, 75, 76, 77, 78, 79, 80, 81, 82, 83, 84, 85, 86, 87, 88, 89] (by decide +kernel) (by decide +kernel)
set_option maxRecDepth 20000 in
theorem gX5_winnerOf_X3_wonBy : GoodIn wsX5_winnerOf (wsV RX5 198 RX3 yX3_wonBy wsX3_wonBy) := goodIn_app (goodIn_of _ (by decide +kernel)) ggX5_winnerOf_X3_wonBy
set_option maxRecDepth 20000 in
theorem ggX5_winnerOf_X5_has : GoodIn wsX5_winnerOf wsX5_has := goodIn_r _ [58] (by decide +kernel) (by decide +kernel)
set_option maxRecDepth 20000 in
theorem gX5_winnerOf_X5_has : GoodIn wsX5_winnerOf (va_wsS RX5 210 yX5_has wsX5_has) := goodIn_app (goodIn_of _ (by decide +kernel)) ggX5_winnerOf_X5_has
theorem dX5_winnerOf_0 : decode cX5_winnerOf 0 = .ok (.aload_n 0, 1) := by decide +kernel
theorem dX5_winnerOf_1 : decode cX5_winnerOf 1 = .ok (.getfield 56, 3) := by decide +kernel
theorem dX5_winnerOf_4 : decode cX5_winnerOf 4 = .ok (.aload_n 0, 1) := by decide +kernel
theorem dX5_winnerOf_5 : decode cX5_winnerOf 5 = .ok (.getfield 12, 3) := by decide +kernel
theorem dX5_winnerOf_8 : decode cX5_winnerOf 8 = .ok (.iconst 0, 1) := by decide +kernel
theorem dX5_winnerOf_9 : decode cX5_winnerOf 9 = .ok (.invokevirtual 198, 3) := by decide +kernel
theorem dX5_winnerOf_12 : decode cX5_winnerOf 12 = .ok (.iload_n 1, 1) := by decide +kernel
theorem dX5_winnerOf_13 : decode cX5_winnerOf 13 = .ok (.invokestatic 210, 3) := by decide +kernel
theorem dX5_winnerOf_16 : decode cX5_winnerOf 16 = .ok (.ifCond .eq 7, 3) := by decide +kernel
theorem dX5_winnerOf_19 : decode cX5_winnerOf 19 = .ok (.iconst 0, 1) := by decide +kernel
theorem dX5_winnerOf_20 : decode cX5_winnerOf 20 = .ok (.goto 4, 3) := by decide +kernel
theorem dX5_winnerOf_23 : decode cX5_winnerOf 23 = .ok (.iconst 1, 1) := by decide +kernel
theorem dX5_winnerOf_24 : decode cX5_winnerOf 24 = .ok (.ireturn, 1) := by decide +kernel
set_option maxRecDepth 20000 in
theorem ggX5_shareOf_X3_wonBy : GoodIn wsX5_shareOf wsX3_wonBy := goodIn_r _ [8, 9, 10, 11, 12, 13, 14, 15, 16, 17, 18, 19, 20, 21, 22, 23, 24, 25, 26, 27, 28, 29, 30, 31, 32, 33, 34, 35, 36, 37, 38, 39, 40, 41, 42, 43, 44, 45, 46, 47, 48, 49, 50, 51, 52, 53, 54, 55, 84, 85, 86, 87, 88, 75, 76, 77, 78, 79, 80, 81, 82, 83, 89, 90, 91, 92, 93] (by decide +kernel) (by decide +kernel)
set_option maxRecDepth 20000 in
theorem gX5_shareOf_X3_wonBy : GoodIn wsX5_shareOf (wsV RX5 198 RX3 yX3_wonBy wsX3_wonBy) := goodIn_app (goodIn_of _ (by decide +kernel)) ggX5_shareOf_X3_wonBy
set_option maxRecDepth 20000 in
theorem ggX5_shareOf_J6_bitCount_0f7a4 : GoodIn wsX5_shareOf wsJ6_bitCount_0f7a4 := goodIn_r _ [59, 60, 61, 62] (by decide +kernel) (by decide +kernel)
set_option maxRecDepth 20000 in
theorem gX5_shareOf_J6_bitCount_0f7a4 : GoodIn wsX5_shareOf (va_wsS RX5 129 yJ6_bitCount_0f7a4 wsJ6_bitCount_0f7a4) := goodIn_app (goodIn_of _ (by decide +kernel)) ggX5_shareOf_J6_bitCount_0f7a4
theorem dX5_shareOf_0 : decode cX5_shareOf 0 = .ok (.aload_n 0, 1) := by decide +kernel
theorem dX5_shareOf_1 : decode cX5_shareOf 1 = .ok (.getfield 56, 3) := by decide +kernel
theorem dX5_shareOf_4 : decode cX5_shareOf 4 = .ok (.aload_n 0, 1) := by decide +kernel
theorem dX5_shareOf_5 : decode cX5_shareOf 5 = .ok (.getfield 12, 3) := by decide +kernel
theorem dX5_shareOf_8 : decode cX5_shareOf 8 = .ok (.iload_n 1, 1) := by decide +kernel
theorem dX5_shareOf_9 : decode cX5_shareOf 9 = .ok (.invokevirtual 198, 3) := by decide +kernel
theorem dX5_shareOf_12 : decode cX5_shareOf 12 = .ok (.invokestatic 129, 3) := by decide +kernel
theorem dX5_shareOf_15 : decode cX5_shareOf 15 = .ok (.i2f, 1) := by decide +kernel
theorem dX5_shareOf_16 : decode cX5_shareOf 16 = .ok (.aload_n 0, 1) := by decide +kernel
theorem dX5_shareOf_17 : decode cX5_shareOf 17 = .ok (.getfield 12, 3) := by decide +kernel
theorem dX5_shareOf_20 : decode cX5_shareOf 20 = .ok (.getfield 114, 3) := by decide +kernel
theorem dX5_shareOf_23 : decode cX5_shareOf 23 = .ok (.i2f, 1) := by decide +kernel
theorem dX5_shareOf_24 : decode cX5_shareOf 24 = .ok (.fdiv, 1) := by decide +kernel
theorem dX5_shareOf_25 : decode cX5_shareOf 25 = .ok (.freturn, 1) := by decide +kernel
theorem dX5_lastOfPlay_0 : decode cX5_lastOfPlay 0 = .ok (.iconst 0, 1) := by decide +kernel
theorem dX5_lastOfPlay_1 : decode cX5_lastOfPlay 1 = .ok (.istore_n 2, 1) := by decide +kernel
theorem dX5_lastOfPlay_2 : decode cX5_lastOfPlay 2 = .ok (.iload_n 2, 1) := by decide +kernel
theorem dX5_lastOfPlay_3 : decode cX5_lastOfPlay 3 = .ok (.bipush 20, 2) := by decide +kernel
theorem dX5_lastOfPlay_5 : decode cX5_lastOfPlay 5 = .ok (.if_icmp .ge 16, 3) := by decide +kernel
theorem dX5_lastOfPlay_8 : decode cX5_lastOfPlay 8 = .ok (.aload_n 0, 1) := by decide +kernel
theorem dX5_lastOfPlay_9 : decode cX5_lastOfPlay 9 = .ok (.getfield 60, 3) := by decide +kernel
theorem dX5_lastOfPlay_12 : decode cX5_lastOfPlay 12 = .ok (.iload_n 2, 1) := by decide +kernel
theorem dX5_lastOfPlay_13 : decode cX5_lastOfPlay 13 = .ok (.iconst (-1), 1) := by decide +kernel
theorem dX5_lastOfPlay_14 : decode cX5_lastOfPlay 14 = .ok (.iastore, 1) := by decide +kernel
theorem dX5_lastOfPlay_15 : decode cX5_lastOfPlay 15 = .ok (.iinc 2 1, 3) := by decide +kernel
theorem dX5_lastOfPlay_18 : decode cX5_lastOfPlay 18 = .ok (.goto (-16), 3) := by decide +kernel
theorem dX5_lastOfPlay_21 : decode cX5_lastOfPlay 21 = .ok (.iload_n 1, 1) := by decide +kernel
theorem dX5_lastOfPlay_22 : decode cX5_lastOfPlay 22 = .ok (.istore_n 2, 1) := by decide +kernel
theorem dX5_lastOfPlay_23 : decode cX5_lastOfPlay 23 = .ok (.iconst 0, 1) := by decide +kernel
theorem dX5_lastOfPlay_24 : decode cX5_lastOfPlay 24 = .ok (.istore_n 3, 1) := by decide +kernel
theorem dX5_lastOfPlay_25 : decode cX5_lastOfPlay 25 = .ok (.iload_n 3, 1) := by decide +kernel
theorem dX5_lastOfPlay_26 : decode cX5_lastOfPlay 26 = .ok (.bipush 20, 2) := by decide +kernel
theorem dX5_lastOfPlay_28 : decode cX5_lastOfPlay 28 = .ok (.if_icmp .ge 57, 3) := by decide +kernel
theorem dX5_lastOfPlay_31 : decode cX5_lastOfPlay 31 = .ok (.aload_n 0, 1) := by decide +kernel
theorem dX5_lastOfPlay_32 : decode cX5_lastOfPlay 32 = .ok (.getfield 60, 3) := by decide +kernel
theorem dX5_lastOfPlay_35 : decode cX5_lastOfPlay 35 = .ok (.iload_n 2, 1) := by decide +kernel
theorem dX5_lastOfPlay_36 : decode cX5_lastOfPlay 36 = .ok (.iaload, 1) := by decide +kernel
theorem dX5_lastOfPlay_37 : decode cX5_lastOfPlay 37 = .ok (.iconst (-1), 1) := by decide +kernel
theorem dX5_lastOfPlay_38 : decode cX5_lastOfPlay 38 = .ok (.if_icmp .ne 47, 3) := by decide +kernel
theorem dX5_lastOfPlay_41 : decode cX5_lastOfPlay 41 = .ok (.aload_n 0, 1) := by decide +kernel
theorem dX5_lastOfPlay_42 : decode cX5_lastOfPlay 42 = .ok (.getfield 56, 3) := by decide +kernel
theorem dX5_lastOfPlay_45 : decode cX5_lastOfPlay 45 = .ok (.getfield 217, 3) := by decide +kernel
theorem dX5_lastOfPlay_48 : decode cX5_lastOfPlay 48 = .ok (.iload_n 2, 1) := by decide +kernel
theorem dX5_lastOfPlay_49 : decode cX5_lastOfPlay 49 = .ok (.iaload, 1) := by decide +kernel
theorem dX5_lastOfPlay_50 : decode cX5_lastOfPlay 50 = .ok (.iconst (-1), 1) := by decide +kernel
theorem dX5_lastOfPlay_51 : decode cX5_lastOfPlay 51 = .ok (.if_icmp .eq 34, 3) := by decide +kernel
theorem dX5_lastOfPlay_54 : decode cX5_lastOfPlay 54 = .ok (.aload_n 0, 1) := by decide +kernel
theorem dX5_lastOfPlay_55 : decode cX5_lastOfPlay 55 = .ok (.getfield 60, 3) := by decide +kernel
theorem dX5_lastOfPlay_58 : decode cX5_lastOfPlay 58 = .ok (.iload_n 2, 1) := by decide +kernel
theorem dX5_lastOfPlay_59 : decode cX5_lastOfPlay 59 = .ok (.iload_n 3, 1) := by decide +kernel
theorem dX5_lastOfPlay_60 : decode cX5_lastOfPlay 60 = .ok (.iastore, 1) := by decide +kernel
theorem dX5_lastOfPlay_61 : decode cX5_lastOfPlay 61 = .ok (.aload_n 0, 1) := by decide +kernel
theorem dX5_lastOfPlay_62 : decode cX5_lastOfPlay 62 = .ok (.getfield 12, 3) := by decide +kernel
theorem dX5_lastOfPlay_65 : decode cX5_lastOfPlay 65 = .ok (.getfield 182, 3) := by decide +kernel
theorem dX5_lastOfPlay_68 : decode cX5_lastOfPlay 68 = .ok (.aload_n 0, 1) := by decide +kernel
theorem dX5_lastOfPlay_69 : decode cX5_lastOfPlay 69 = .ok (.getfield 56, 3) := by decide +kernel
theorem dX5_lastOfPlay_72 : decode cX5_lastOfPlay 72 = .ok (.getfield 217, 3) := by decide +kernel
theorem dX5_lastOfPlay_75 : decode cX5_lastOfPlay 75 = .ok (.iload_n 2, 1) := by decide +kernel
theorem dX5_lastOfPlay_76 : decode cX5_lastOfPlay 76 = .ok (.iaload, 1) := by decide +kernel
theorem dX5_lastOfPlay_77 : decode cX5_lastOfPlay 77 = .ok (.iaload, 1) := by decide +kernel
theorem dX5_lastOfPlay_78 : decode cX5_lastOfPlay 78 = .ok (.istore_n 2, 1) := by decide +kernel
theorem dX5_lastOfPlay_79 : decode cX5_lastOfPlay 79 = .ok (.iinc 3 1, 3) := by decide +kernel
theorem dX5_lastOfPlay_82 : decode cX5_lastOfPlay 82 = .ok (.goto (-57), 3) := by decide +kernel
theorem dX5_lastOfPlay_85 : decode cX5_lastOfPlay 85 = .ok (.iload_n 2, 1) := by decide +kernel
theorem dX5_lastOfPlay_86 : decode cX5_lastOfPlay 86 = .ok (.ireturn, 1) := by decide +kernel
theorem dX5_placesSeen_0 : decode cX5_placesSeen 0 = .ok (.iconst 0, 1) := by decide +kernel
theorem dX5_placesSeen_1 : decode cX5_placesSeen 1 = .ok (.istore_n 1, 1) := by decide +kernel
theorem dX5_placesSeen_2 : decode cX5_placesSeen 2 = .ok (.iconst 0, 1) := by decide +kernel
theorem dX5_placesSeen_3 : decode cX5_placesSeen 3 = .ok (.istore_n 2, 1) := by decide +kernel
theorem dX5_placesSeen_4 : decode cX5_placesSeen 4 = .ok (.iload_n 2, 1) := by decide +kernel
theorem dX5_placesSeen_5 : decode cX5_placesSeen 5 = .ok (.aload_n 0, 1) := by decide +kernel
theorem dX5_placesSeen_6 : decode cX5_placesSeen 6 = .ok (.getfield 12, 3) := by decide +kernel
theorem dX5_placesSeen_9 : decode cX5_placesSeen 9 = .ok (.getfield 114, 3) := by decide +kernel
theorem dX5_placesSeen_12 : decode cX5_placesSeen 12 = .ok (.if_icmp .ge 22, 3) := by decide +kernel
theorem dX5_placesSeen_15 : decode cX5_placesSeen 15 = .ok (.aload_n 0, 1) := by decide +kernel
theorem dX5_placesSeen_16 : decode cX5_placesSeen 16 = .ok (.getfield 60, 3) := by decide +kernel
theorem dX5_placesSeen_19 : decode cX5_placesSeen 19 = .ok (.iload_n 2, 1) := by decide +kernel
theorem dX5_placesSeen_20 : decode cX5_placesSeen 20 = .ok (.iaload, 1) := by decide +kernel
theorem dX5_placesSeen_21 : decode cX5_placesSeen 21 = .ok (.iconst (-1), 1) := by decide +kernel
theorem dX5_placesSeen_22 : decode cX5_placesSeen 22 = .ok (.if_icmp .eq 6, 3) := by decide +kernel
theorem dX5_placesSeen_25 : decode cX5_placesSeen 25 = .ok (.iinc 1 1, 3) := by decide +kernel
theorem dX5_placesSeen_28 : decode cX5_placesSeen 28 = .ok (.iinc 2 1, 3) := by decide +kernel
theorem dX5_placesSeen_31 : decode cX5_placesSeen 31 = .ok (.goto (-27), 3) := by decide +kernel
theorem dX5_placesSeen_34 : decode cX5_placesSeen 34 = .ok (.iload_n 1, 1) := by decide +kernel
theorem dX5_placesSeen_35 : decode cX5_placesSeen 35 = .ok (.ireturn, 1) := by decide +kernel
theorem dX5_greatestCallSince_0 : decode cX5_greatestCallSince 0 = .ok (.iconst (-1), 1) := by decide +kernel
theorem dX5_greatestCallSince_1 : decode cX5_greatestCallSince 1 = .ok (.istore_n 2, 1) := by decide +kernel
theorem dX5_greatestCallSince_2 : decode cX5_greatestCallSince 2 = .ok (.iconst 0, 1) := by decide +kernel
theorem dX5_greatestCallSince_3 : decode cX5_greatestCallSince 3 = .ok (.istore_n 3, 1) := by decide +kernel
theorem dX5_greatestCallSince_4 : decode cX5_greatestCallSince 4 = .ok (.iload_n 3, 1) := by decide +kernel
theorem dX5_greatestCallSince_5 : decode cX5_greatestCallSince 5 = .ok (.aload_n 0, 1) := by decide +kernel
theorem dX5_greatestCallSince_6 : decode cX5_greatestCallSince 6 = .ok (.getfield 12, 3) := by decide +kernel
theorem dX5_greatestCallSince_9 : decode cX5_greatestCallSince 9 = .ok (.getfield 114, 3) := by decide +kernel
theorem dX5_greatestCallSince_12 : decode cX5_greatestCallSince 12 = .ok (.if_icmp .ge 33, 3) := by decide +kernel
theorem dX5_greatestCallSince_15 : decode cX5_greatestCallSince 15 = .ok (.aload_n 0, 1) := by decide +kernel
theorem dX5_greatestCallSince_16 : decode cX5_greatestCallSince 16 = .ok (.getfield 60, 3) := by decide +kernel
theorem dX5_greatestCallSince_19 : decode cX5_greatestCallSince 19 = .ok (.iload_n 3, 1) := by decide +kernel
theorem dX5_greatestCallSince_20 : decode cX5_greatestCallSince 20 = .ok (.iaload, 1) := by decide +kernel
theorem dX5_greatestCallSince_21 : decode cX5_greatestCallSince 21 = .ok (.iload_n 1, 1) := by decide +kernel
theorem dX5_greatestCallSince_22 : decode cX5_greatestCallSince 22 = .ok (.if_icmp .lt 17, 3) := by decide +kernel
theorem dX5_greatestCallSince_25 : decode cX5_greatestCallSince 25 = .ok (.iload_n 2, 1) := by decide +kernel
theorem dX5_greatestCallSince_26 : decode cX5_greatestCallSince 26 = .ok (.aload_n 0, 1) := by decide +kernel
theorem dX5_greatestCallSince_27 : decode cX5_greatestCallSince 27 = .ok (.getfield 12, 3) := by decide +kernel
theorem dX5_greatestCallSince_30 : decode cX5_greatestCallSince 30 = .ok (.getfield 162, 3) := by decide +kernel
theorem dX5_greatestCallSince_33 : decode cX5_greatestCallSince 33 = .ok (.iload_n 3, 1) := by decide +kernel
theorem dX5_greatestCallSince_34 : decode cX5_greatestCallSince 34 = .ok (.iaload, 1) := by decide +kernel
theorem dX5_greatestCallSince_35 : decode cX5_greatestCallSince 35 = .ok (.invokestatic 349, 3) := by decide +kernel
theorem dX5_greatestCallSince_38 : decode cX5_greatestCallSince 38 = .ok (.istore_n 2, 1) := by decide +kernel
theorem dX5_greatestCallSince_39 : decode cX5_greatestCallSince 39 = .ok (.iinc 3 1, 3) := by decide +kernel
theorem dX5_greatestCallSince_42 : decode cX5_greatestCallSince 42 = .ok (.goto (-38), 3) := by decide +kernel
theorem dX5_greatestCallSince_45 : decode cX5_greatestCallSince 45 = .ok (.iload_n 2, 1) := by decide +kernel
theorem dX5_greatestCallSince_46 : decode cX5_greatestCallSince 46 = .ok (.ireturn, 1) := by decide +kernel
theorem dX5_appendFour_0 : decode cX5_appendFour 0 = .ok (.bipush 24, 2) := by decide +kernel
theorem dX5_appendFour_2 : decode cX5_appendFour 2 = .ok (.istore_n 2, 1) := by decide +kernel
theorem dX5_appendFour_3 : decode cX5_appendFour 3 = .ok (.iload_n 2, 1) := by decide +kernel
theorem dX5_appendFour_4 : decode cX5_appendFour 4 = .ok (.ifCond .lt 45, 3) := by decide +kernel
theorem dX5_appendFour_7 : decode cX5_appendFour 7 = .ok (.aload_n 0, 1) := by decide +kernel
theorem dX5_appendFour_8 : decode cX5_appendFour 8 = .ok (.getfield 78, 3) := by decide +kernel
theorem dX5_appendFour_11 : decode cX5_appendFour 11 = .ok (.sipush 600, 3) := by decide +kernel
theorem dX5_appendFour_14 : decode cX5_appendFour 14 = .ok (.if_icmp .ge 35, 3) := by decide +kernel
theorem dX5_appendFour_17 : decode cX5_appendFour 17 = .ok (.aload_n 0, 1) := by decide +kernel
theorem dX5_appendFour_18 : decode cX5_appendFour 18 = .ok (.getfield 16, 3) := by decide +kernel
theorem dX5_appendFour_21 : decode cX5_appendFour 21 = .ok (.aload_n 0, 1) := by decide +kernel
theorem dX5_appendFour_22 : decode cX5_appendFour 22 = .ok (.getfield 78, 3) := by decide +kernel
theorem dX5_appendFour_25 : decode cX5_appendFour 25 = .ok (.iload_n 1, 1) := by decide +kernel
theorem dX5_appendFour_26 : decode cX5_appendFour 26 = .ok (.iload_n 2, 1) := by decide +kernel
theorem dX5_appendFour_27 : decode cX5_appendFour 27 = .ok (.iushr, 1) := by decide +kernel
theorem dX5_appendFour_28 : decode cX5_appendFour 28 = .ok (.sipush 255, 3) := by decide +kernel
theorem dX5_appendFour_31 : decode cX5_appendFour 31 = .ok (.iand, 1) := by decide +kernel
theorem dX5_appendFour_32 : decode cX5_appendFour 32 = .ok (.iastore, 1) := by decide +kernel
theorem dX5_appendFour_33 : decode cX5_appendFour 33 = .ok (.aload_n 0, 1) := by decide +kernel
theorem dX5_appendFour_34 : decode cX5_appendFour 34 = .ok (.dup, 1) := by decide +kernel
theorem dX5_appendFour_35 : decode cX5_appendFour 35 = .ok (.getfield 78, 3) := by decide +kernel
theorem dX5_appendFour_38 : decode cX5_appendFour 38 = .ok (.iconst 1, 1) := by decide +kernel
theorem dX5_appendFour_39 : decode cX5_appendFour 39 = .ok (.iadd, 1) := by decide +kernel
theorem dX5_appendFour_40 : decode cX5_appendFour 40 = .ok (.putfield 78, 3) := by decide +kernel
theorem dX5_appendFour_43 : decode cX5_appendFour 43 = .ok (.iinc 2 (-8), 3) := by decide +kernel
theorem dX5_appendFour_46 : decode cX5_appendFour 46 = .ok (.goto (-43), 3) := by decide +kernel
theorem dX5_appendFour_49 : decode cX5_appendFour 49 = .ok (.return_, 1) := by decide +kernel
theorem dJ6_getChars_ba4f3_0 : decode cJ6_getChars_ba4f3 0 = .ok (.iload_n 1, 1) := by decide +kernel
theorem dJ6_getChars_ba4f3_1 : decode cJ6_getChars_ba4f3 1 = .ok (.istore 5, 2) := by decide +kernel
theorem dJ6_getChars_ba4f3_3 : decode cJ6_getChars_ba4f3 3 = .ok (.iload_n 0, 1) := by decide +kernel
theorem dJ6_getChars_ba4f3_4 : decode cJ6_getChars_ba4f3 4 = .ok (.ifCond .ge 7, 3) := by decide +kernel
theorem dJ6_getChars_ba4f3_7 : decode cJ6_getChars_ba4f3 7 = .ok (.iconst 1, 1) := by decide +kernel
theorem dJ6_getChars_ba4f3_8 : decode cJ6_getChars_ba4f3 8 = .ok (.goto 4, 3) := by decide +kernel
theorem dJ6_getChars_ba4f3_11 : decode cJ6_getChars_ba4f3 11 = .ok (.iconst 0, 1) := by decide +kernel
theorem dJ6_getChars_ba4f3_12 : decode cJ6_getChars_ba4f3 12 = .ok (.istore 6, 2) := by decide +kernel
theorem dJ6_getChars_ba4f3_14 : decode cJ6_getChars_ba4f3 14 = .ok (.iload 6, 2) := by decide +kernel
theorem dJ6_getChars_ba4f3_16 : decode cJ6_getChars_ba4f3 16 = .ok (.ifCond .ne 6, 3) := by decide +kernel
theorem dJ6_getChars_ba4f3_19 : decode cJ6_getChars_ba4f3 19 = .ok (.iload_n 0, 1) := by decide +kernel
theorem dJ6_getChars_ba4f3_20 : decode cJ6_getChars_ba4f3 20 = .ok (.ineg, 1) := by decide +kernel
theorem dJ6_getChars_ba4f3_21 : decode cJ6_getChars_ba4f3 21 = .ok (.istore_n 0, 1) := by decide +kernel
theorem dJ6_getChars_ba4f3_22 : decode cJ6_getChars_ba4f3 22 = .ok (.iload_n 0, 1) := by decide +kernel
theorem dJ6_getChars_ba4f3_23 : decode cJ6_getChars_ba4f3 23 = .ok (.bipush (-100), 2) := by decide +kernel
theorem dJ6_getChars_ba4f3_25 : decode cJ6_getChars_ba4f3 25 = .ok (.if_icmp .gt 47, 3) := by decide +kernel
theorem dJ6_getChars_ba4f3_28 : decode cJ6_getChars_ba4f3 28 = .ok (.iload_n 0, 1) := by decide +kernel
theorem dJ6_getChars_ba4f3_29 : decode cJ6_getChars_ba4f3 29 = .ok (.bipush 100, 2) := by decide +kernel
theorem dJ6_getChars_ba4f3_31 : decode cJ6_getChars_ba4f3 31 = .ok (.idiv, 1) := by decide +kernel
theorem dJ6_getChars_ba4f3_32 : decode cJ6_getChars_ba4f3 32 = .ok (.istore_n 3, 1) := by decide +kernel
theorem dJ6_getChars_ba4f3_33 : decode cJ6_getChars_ba4f3 33 = .ok (.iload_n 3, 1) := by decide +kernel
theorem dJ6_getChars_ba4f3_34 : decode cJ6_getChars_ba4f3 34 = .ok (.bipush 100, 2) := by decide +kernel
theorem dJ6_getChars_ba4f3_36 : decode cJ6_getChars_ba4f3 36 = .ok (.imul, 1) := by decide +kernel
theorem dJ6_getChars_ba4f3_37 : decode cJ6_getChars_ba4f3 37 = .ok (.iload_n 0, 1) := by decide +kernel
theorem dJ6_getChars_ba4f3_38 : decode cJ6_getChars_ba4f3 38 = .ok (.isub, 1) := by decide +kernel
theorem dJ6_getChars_ba4f3_39 : decode cJ6_getChars_ba4f3 39 = .ok (.istore 4, 2) := by decide +kernel
theorem dJ6_getChars_ba4f3_41 : decode cJ6_getChars_ba4f3 41 = .ok (.iload_n 3, 1) := by decide +kernel
theorem dJ6_getChars_ba4f3_42 : decode cJ6_getChars_ba4f3 42 = .ok (.istore_n 0, 1) := by decide +kernel
theorem dJ6_getChars_ba4f3_43 : decode cJ6_getChars_ba4f3 43 = .ok (.aload_n 2, 1) := by decide +kernel
theorem dJ6_getChars_ba4f3_44 : decode cJ6_getChars_ba4f3 44 = .ok (.iinc 5 (-1), 3) := by decide +kernel
theorem dJ6_getChars_ba4f3_47 : decode cJ6_getChars_ba4f3 47 = .ok (.iload 5, 2) := by decide +kernel
theorem dJ6_getChars_ba4f3_49 : decode cJ6_getChars_ba4f3 49 = .ok (.getstatic 83, 3) := by decide +kernel
theorem dJ6_getChars_ba4f3_52 : decode cJ6_getChars_ba4f3 52 = .ok (.iload 4, 2) := by decide +kernel
theorem dJ6_getChars_ba4f3_54 : decode cJ6_getChars_ba4f3 54 = .ok (.baload, 1) := by decide +kernel
theorem dJ6_getChars_ba4f3_55 : decode cJ6_getChars_ba4f3 55 = .ok (.bastore, 1) := by decide +kernel
theorem dJ6_getChars_ba4f3_56 : decode cJ6_getChars_ba4f3 56 = .ok (.aload_n 2, 1) := by decide +kernel
theorem dJ6_getChars_ba4f3_57 : decode cJ6_getChars_ba4f3 57 = .ok (.iinc 5 (-1), 3) := by decide +kernel
theorem dJ6_getChars_ba4f3_60 : decode cJ6_getChars_ba4f3 60 = .ok (.iload 5, 2) := by decide +kernel
theorem dJ6_getChars_ba4f3_62 : decode cJ6_getChars_ba4f3 62 = .ok (.getstatic 87, 3) := by decide +kernel
theorem dJ6_getChars_ba4f3_65 : decode cJ6_getChars_ba4f3 65 = .ok (.iload 4, 2) := by decide +kernel
theorem dJ6_getChars_ba4f3_67 : decode cJ6_getChars_ba4f3 67 = .ok (.baload, 1) := by decide +kernel
theorem dJ6_getChars_ba4f3_68 : decode cJ6_getChars_ba4f3 68 = .ok (.bastore, 1) := by decide +kernel
theorem dJ6_getChars_ba4f3_69 : decode cJ6_getChars_ba4f3 69 = .ok (.goto (-47), 3) := by decide +kernel
theorem dJ6_getChars_ba4f3_72 : decode cJ6_getChars_ba4f3 72 = .ok (.aload_n 2, 1) := by decide +kernel
theorem dJ6_getChars_ba4f3_73 : decode cJ6_getChars_ba4f3 73 = .ok (.iinc 5 (-1), 3) := by decide +kernel
theorem dJ6_getChars_ba4f3_76 : decode cJ6_getChars_ba4f3 76 = .ok (.iload 5, 2) := by decide +kernel
theorem dJ6_getChars_ba4f3_78 : decode cJ6_getChars_ba4f3 78 = .ok (.getstatic 83, 3) := by decide +kernel
theorem dJ6_getChars_ba4f3_81 : decode cJ6_getChars_ba4f3 81 = .ok (.iload_n 0, 1) := by decide +kernel
theorem dJ6_getChars_ba4f3_82 : decode cJ6_getChars_ba4f3 82 = .ok (.ineg, 1) := by decide +kernel
theorem dJ6_getChars_ba4f3_83 : decode cJ6_getChars_ba4f3 83 = .ok (.baload, 1) := by decide +kernel
theorem dJ6_getChars_ba4f3_84 : decode cJ6_getChars_ba4f3 84 = .ok (.bastore, 1) := by decide +kernel
theorem dJ6_getChars_ba4f3_85 : decode cJ6_getChars_ba4f3 85 = .ok (.iload_n 0, 1) := by decide +kernel
theorem dJ6_getChars_ba4f3_86 : decode cJ6_getChars_ba4f3 86 = .ok (.bipush (-9), 2) := by decide +kernel
theorem dJ6_getChars_ba4f3_88 : decode cJ6_getChars_ba4f3 88 = .ok (.if_icmp .ge 16, 3) := by decide +kernel
theorem dJ6_getChars_ba4f3_91 : decode cJ6_getChars_ba4f3 91 = .ok (.aload_n 2, 1) := by decide +kernel
theorem dJ6_getChars_ba4f3_92 : decode cJ6_getChars_ba4f3 92 = .ok (.iinc 5 (-1), 3) := by decide +kernel
theorem dJ6_getChars_ba4f3_95 : decode cJ6_getChars_ba4f3 95 = .ok (.iload 5, 2) := by decide +kernel
theorem dJ6_getChars_ba4f3_97 : decode cJ6_getChars_ba4f3 97 = .ok (.getstatic 87, 3) := by decide +kernel
theorem dJ6_getChars_ba4f3_100 : decode cJ6_getChars_ba4f3 100 = .ok (.iload_n 0, 1) := by decide +kernel
theorem dJ6_getChars_ba4f3_101 : decode cJ6_getChars_ba4f3 101 = .ok (.ineg, 1) := by decide +kernel
theorem dJ6_getChars_ba4f3_102 : decode cJ6_getChars_ba4f3 102 = .ok (.baload, 1) := by decide +kernel
theorem dJ6_getChars_ba4f3_103 : decode cJ6_getChars_ba4f3 103 = .ok (.bastore, 1) := by decide +kernel
theorem dJ6_getChars_ba4f3_104 : decode cJ6_getChars_ba4f3 104 = .ok (.iload 6, 2) := by decide +kernel
theorem dJ6_getChars_ba4f3_106 : decode cJ6_getChars_ba4f3 106 = .ok (.ifCond .eq 12, 3) := by decide +kernel
theorem dJ6_getChars_ba4f3_109 : decode cJ6_getChars_ba4f3 109 = .ok (.aload_n 2, 1) := by decide +kernel
theorem dJ6_getChars_ba4f3_110 : decode cJ6_getChars_ba4f3 110 = .ok (.iinc 5 (-1), 3) := by decide +kernel
theorem dJ6_getChars_ba4f3_113 : decode cJ6_getChars_ba4f3 113 = .ok (.iload 5, 2) := by decide +kernel
theorem dJ6_getChars_ba4f3_115 : decode cJ6_getChars_ba4f3 115 = .ok (.bipush 45, 2) := by decide +kernel
theorem dJ6_getChars_ba4f3_117 : decode cJ6_getChars_ba4f3 117 = .ok (.bastore, 1) := by decide +kernel
theorem dJ6_getChars_ba4f3_118 : decode cJ6_getChars_ba4f3 118 = .ok (.iload 5, 2) := by decide +kernel
theorem dJ6_getChars_ba4f3_120 : decode cJ6_getChars_ba4f3 120 = .ok (.ireturn, 1) := by decide +kernel
theorem dJ6_stringSize_0f7a4_0 : decode cJ6_stringSize_0f7a4 0 = .ok (.iconst 1, 1) := by decide +kernel
theorem dJ6_stringSize_0f7a4_1 : decode cJ6_stringSize_0f7a4 1 = .ok (.istore_n 1, 1) := by decide +kernel
theorem dJ6_stringSize_0f7a4_2 : decode cJ6_stringSize_0f7a4 2 = .ok (.iload_n 0, 1) := by decide +kernel
theorem dJ6_stringSize_0f7a4_3 : decode cJ6_stringSize_0f7a4 3 = .ok (.ifCond .lt 8, 3) := by decide +kernel
theorem dJ6_stringSize_0f7a4_6 : decode cJ6_stringSize_0f7a4 6 = .ok (.iconst 0, 1) := by decide +kernel
theorem dJ6_stringSize_0f7a4_7 : decode cJ6_stringSize_0f7a4 7 = .ok (.istore_n 1, 1) := by decide +kernel
theorem dJ6_stringSize_0f7a4_8 : decode cJ6_stringSize_0f7a4 8 = .ok (.iload_n 0, 1) := by decide +kernel
theorem dJ6_stringSize_0f7a4_9 : decode cJ6_stringSize_0f7a4 9 = .ok (.ineg, 1) := by decide +kernel
theorem dJ6_stringSize_0f7a4_10 : decode cJ6_stringSize_0f7a4 10 = .ok (.istore_n 0, 1) := by decide +kernel
theorem dJ6_stringSize_0f7a4_11 : decode cJ6_stringSize_0f7a4 11 = .ok (.bipush (-10), 2) := by decide +kernel
theorem dJ6_stringSize_0f7a4_13 : decode cJ6_stringSize_0f7a4 13 = .ok (.istore_n 2, 1) := by decide +kernel
theorem dJ6_stringSize_0f7a4_14 : decode cJ6_stringSize_0f7a4 14 = .ok (.iconst 1, 1) := by decide +kernel
theorem dJ6_stringSize_0f7a4_15 : decode cJ6_stringSize_0f7a4 15 = .ok (.istore_n 3, 1) := by decide +kernel
theorem dJ6_stringSize_0f7a4_16 : decode cJ6_stringSize_0f7a4 16 = .ok (.iload_n 3, 1) := by decide +kernel
theorem dJ6_stringSize_0f7a4_17 : decode cJ6_stringSize_0f7a4 17 = .ok (.bipush 10, 2) := by decide +kernel
theorem dJ6_stringSize_0f7a4_19 : decode cJ6_stringSize_0f7a4 19 = .ok (.if_icmp .ge 23, 3) := by decide +kernel
theorem dJ6_stringSize_0f7a4_22 : decode cJ6_stringSize_0f7a4 22 = .ok (.iload_n 0, 1) := by decide +kernel
theorem dJ6_stringSize_0f7a4_23 : decode cJ6_stringSize_0f7a4 23 = .ok (.iload_n 2, 1) := by decide +kernel
theorem dJ6_stringSize_0f7a4_24 : decode cJ6_stringSize_0f7a4 24 = .ok (.if_icmp .le 7, 3) := by decide +kernel
theorem dJ6_stringSize_0f7a4_27 : decode cJ6_stringSize_0f7a4 27 = .ok (.iload_n 3, 1) := by decide +kernel
theorem dJ6_stringSize_0f7a4_28 : decode cJ6_stringSize_0f7a4 28 = .ok (.iload_n 1, 1) := by decide +kernel
theorem dJ6_stringSize_0f7a4_29 : decode cJ6_stringSize_0f7a4 29 = .ok (.iadd, 1) := by decide +kernel
theorem dJ6_stringSize_0f7a4_30 : decode cJ6_stringSize_0f7a4 30 = .ok (.ireturn, 1) := by decide +kernel
theorem dJ6_stringSize_0f7a4_31 : decode cJ6_stringSize_0f7a4 31 = .ok (.bipush 10, 2) := by decide +kernel
theorem dJ6_stringSize_0f7a4_33 : decode cJ6_stringSize_0f7a4 33 = .ok (.iload_n 2, 1) := by decide +kernel
theorem dJ6_stringSize_0f7a4_34 : decode cJ6_stringSize_0f7a4 34 = .ok (.imul, 1) := by decide +kernel
theorem dJ6_stringSize_0f7a4_35 : decode cJ6_stringSize_0f7a4 35 = .ok (.istore_n 2, 1) := by decide +kernel
theorem dJ6_stringSize_0f7a4_36 : decode cJ6_stringSize_0f7a4 36 = .ok (.iinc 3 1, 3) := by decide +kernel
theorem dJ6_stringSize_0f7a4_39 : decode cJ6_stringSize_0f7a4 39 = .ok (.goto (-23), 3) := by decide +kernel
theorem dJ6_stringSize_0f7a4_42 : decode cJ6_stringSize_0f7a4 42 = .ok (.bipush 10, 2) := by decide +kernel
theorem dJ6_stringSize_0f7a4_44 : decode cJ6_stringSize_0f7a4 44 = .ok (.iload_n 1, 1) := by decide +kernel
theorem dJ6_stringSize_0f7a4_45 : decode cJ6_stringSize_0f7a4 45 = .ok (.iadd, 1) := by decide +kernel
theorem dJ6_stringSize_0f7a4_46 : decode cJ6_stringSize_0f7a4 46 = .ok (.ireturn, 1) := by decide +kernel
theorem dJ6_bitCount_0f7a4_0 : decode cJ6_bitCount_0f7a4 0 = .ok (.iload_n 0, 1) := by decide +kernel
theorem dJ6_bitCount_0f7a4_1 : decode cJ6_bitCount_0f7a4 1 = .ok (.iload_n 0, 1) := by decide +kernel
theorem dJ6_bitCount_0f7a4_2 : decode cJ6_bitCount_0f7a4 2 = .ok (.iconst 1, 1) := by decide +kernel
theorem dJ6_bitCount_0f7a4_3 : decode cJ6_bitCount_0f7a4 3 = .ok (.iushr, 1) := by decide +kernel
theorem dJ6_bitCount_0f7a4_4 : decode cJ6_bitCount_0f7a4 4 = .ok (.ldc_w 265, 3) := by decide +kernel
theorem dJ6_bitCount_0f7a4_7 : decode cJ6_bitCount_0f7a4 7 = .ok (.iand, 1) := by decide +kernel
theorem dJ6_bitCount_0f7a4_8 : decode cJ6_bitCount_0f7a4 8 = .ok (.isub, 1) := by decide +kernel
theorem dJ6_bitCount_0f7a4_9 : decode cJ6_bitCount_0f7a4 9 = .ok (.istore_n 0, 1) := by decide +kernel
theorem dJ6_bitCount_0f7a4_10 : decode cJ6_bitCount_0f7a4 10 = .ok (.iload_n 0, 1) := by decide +kernel
theorem dJ6_bitCount_0f7a4_11 : decode cJ6_bitCount_0f7a4 11 = .ok (.ldc_w 266, 3) := by decide +kernel
theorem dJ6_bitCount_0f7a4_14 : decode cJ6_bitCount_0f7a4 14 = .ok (.iand, 1) := by decide +kernel
theorem dJ6_bitCount_0f7a4_15 : decode cJ6_bitCount_0f7a4 15 = .ok (.iload_n 0, 1) := by decide +kernel
theorem dJ6_bitCount_0f7a4_16 : decode cJ6_bitCount_0f7a4 16 = .ok (.iconst 2, 1) := by decide +kernel
theorem dJ6_bitCount_0f7a4_17 : decode cJ6_bitCount_0f7a4 17 = .ok (.iushr, 1) := by decide +kernel
theorem dJ6_bitCount_0f7a4_18 : decode cJ6_bitCount_0f7a4 18 = .ok (.ldc_w 266, 3) := by decide +kernel
theorem dJ6_bitCount_0f7a4_21 : decode cJ6_bitCount_0f7a4 21 = .ok (.iand, 1) := by decide +kernel
theorem dJ6_bitCount_0f7a4_22 : decode cJ6_bitCount_0f7a4 22 = .ok (.iadd, 1) := by decide +kernel
theorem dJ6_bitCount_0f7a4_23 : decode cJ6_bitCount_0f7a4 23 = .ok (.istore_n 0, 1) := by decide +kernel
theorem dJ6_bitCount_0f7a4_24 : decode cJ6_bitCount_0f7a4 24 = .ok (.iload_n 0, 1) := by decide +kernel
theorem dJ6_bitCount_0f7a4_25 : decode cJ6_bitCount_0f7a4 25 = .ok (.iload_n 0, 1) := by decide +kernel
theorem dJ6_bitCount_0f7a4_26 : decode cJ6_bitCount_0f7a4 26 = .ok (.iconst 4, 1) := by decide +kernel
theorem dJ6_bitCount_0f7a4_27 : decode cJ6_bitCount_0f7a4 27 = .ok (.iushr, 1) := by decide +kernel
theorem dJ6_bitCount_0f7a4_28 : decode cJ6_bitCount_0f7a4 28 = .ok (.iadd, 1) := by decide +kernel
theorem dJ6_bitCount_0f7a4_29 : decode cJ6_bitCount_0f7a4 29 = .ok (.ldc_w 267, 3) := by decide +kernel
theorem dJ6_bitCount_0f7a4_32 : decode cJ6_bitCount_0f7a4 32 = .ok (.iand, 1) := by decide +kernel
theorem dJ6_bitCount_0f7a4_33 : decode cJ6_bitCount_0f7a4 33 = .ok (.istore_n 0, 1) := by decide +kernel
theorem dJ6_bitCount_0f7a4_34 : decode cJ6_bitCount_0f7a4 34 = .ok (.iload_n 0, 1) := by decide +kernel
theorem dJ6_bitCount_0f7a4_35 : decode cJ6_bitCount_0f7a4 35 = .ok (.iload_n 0, 1) := by decide +kernel
theorem dJ6_bitCount_0f7a4_36 : decode cJ6_bitCount_0f7a4 36 = .ok (.bipush 8, 2) := by decide +kernel
theorem dJ6_bitCount_0f7a4_38 : decode cJ6_bitCount_0f7a4 38 = .ok (.iushr, 1) := by decide +kernel
theorem dJ6_bitCount_0f7a4_39 : decode cJ6_bitCount_0f7a4 39 = .ok (.iadd, 1) := by decide +kernel
theorem dJ6_bitCount_0f7a4_40 : decode cJ6_bitCount_0f7a4 40 = .ok (.istore_n 0, 1) := by decide +kernel
theorem dJ6_bitCount_0f7a4_41 : decode cJ6_bitCount_0f7a4 41 = .ok (.iload_n 0, 1) := by decide +kernel
theorem dJ6_bitCount_0f7a4_42 : decode cJ6_bitCount_0f7a4 42 = .ok (.iload_n 0, 1) := by decide +kernel
theorem dJ6_bitCount_0f7a4_43 : decode cJ6_bitCount_0f7a4 43 = .ok (.bipush 16, 2) := by decide +kernel
theorem dJ6_bitCount_0f7a4_45 : decode cJ6_bitCount_0f7a4 45 = .ok (.iushr, 1) := by decide +kernel
theorem dJ6_bitCount_0f7a4_46 : decode cJ6_bitCount_0f7a4 46 = .ok (.iadd, 1) := by decide +kernel
theorem dJ6_bitCount_0f7a4_47 : decode cJ6_bitCount_0f7a4 47 = .ok (.istore_n 0, 1) := by decide +kernel
theorem dJ6_bitCount_0f7a4_48 : decode cJ6_bitCount_0f7a4 48 = .ok (.iload_n 0, 1) := by decide +kernel
theorem dJ6_bitCount_0f7a4_49 : decode cJ6_bitCount_0f7a4 49 = .ok (.bipush 63, 2) := by decide +kernel
theorem dJ6_bitCount_0f7a4_51 : decode cJ6_bitCount_0f7a4 51 = .ok (.iand, 1) := by decide +kernel
theorem dJ6_bitCount_0f7a4_52 : decode cJ6_bitCount_0f7a4 52 = .ok (.ireturn, 1) := by decide +kernel
set_option maxRecDepth 20000 in
theorem ggJ0_init_81219_J0_init_db425 : GoodIn wsJ0_init_81219 wsJ0_init_db425 := goodIn_r _ [4, 5, 6, 7, 8, 9, 10, 11, 12, 13, 14, 15, 16, 17, 18, 19, 20, 21, 22, 23, 24, 25, 26, 27, 28, 29, 30, 31, 32, 33, 34, 35, 36, 37, 38, 39, 40, 41, 42, 43, 44, 45, 46, 47, 48, 49, 50, 51, 52, 53, 54, 55, 56, 57, 58, 59, 60, 61, 62, 63, 64, 65, 66, 67, 68, 69, 70, 71, 72, 73, 74, 75, 76, 77, 78, 79, 3, 80, 81, 82, 83, 84, 85, 86, 87, 88, 89, 90, 91, 92, 93, 94, 95, 96, 97, 98, 99, 100, 101, 102, 103, 104, 105, 106, 107] (by decide +kernel) (by decide +kernel)
set_option maxRecDepth 20000 in
theorem gJ0_init_81219_J0_init_db425 : GoodIn wsJ0_init_81219 (wsJ0_init_db425) := ggJ0_init_81219_J0_init_db425
theorem dJ0_init_81219_0 : decode cJ0_init_81219 0 = .ok (.aload_n 0, 1) := by decide +kernel
theorem dJ0_init_81219_1 : decode cJ0_init_81219 1 = .ok (.aload_n 1, 1) := by decide +kernel
theorem dJ0_init_81219_2 : decode cJ0_init_81219 2 = .ok (.aconst_null, 1) := by decide +kernel
theorem dJ0_init_81219_3 : decode cJ0_init_81219 3 = .ok (.invokespecial 489, 3) := by decide +kernel
theorem dJ0_init_81219_6 : decode cJ0_init_81219 6 = .ok (.return_, 1) := by decide +kernel
set_option maxRecDepth 20000 in
theorem ggJ0_length_8abf5_J0_coder_7d493 : GoodIn wsJ0_length_8abf5 wsJ0_coder_7d493 := goodIn_r _ [6, 7, 8, 9, 10, 11, 12] (by decide +kernel) (by decide +kernel)
set_option maxRecDepth 20000 in
theorem gJ0_length_8abf5_J0_coder_7d493 : GoodIn wsJ0_length_8abf5 (wsV RJ0 335 RJ0 yJ0_coder_7d493 wsJ0_coder_7d493) := goodIn_app (goodIn_of _ (by decide +kernel)) ggJ0_length_8abf5_J0_coder_7d493
theorem dJ0_length_8abf5_0 : decode cJ0_length_8abf5 0 = .ok (.aload_n 0, 1) := by decide +kernel
theorem dJ0_length_8abf5_1 : decode cJ0_length_8abf5 1 = .ok (.getfield 9, 3) := by decide +kernel
theorem dJ0_length_8abf5_4 : decode cJ0_length_8abf5 4 = .ok (.arraylength, 1) := by decide +kernel
theorem dJ0_length_8abf5_5 : decode cJ0_length_8abf5 5 = .ok (.aload_n 0, 1) := by decide +kernel
theorem dJ0_length_8abf5_6 : decode cJ0_length_8abf5 6 = .ok (.invokevirtual 335, 3) := by decide +kernel
theorem dJ0_length_8abf5_9 : decode cJ0_length_8abf5 9 = .ok (.ishr, 1) := by decide +kernel
theorem dJ0_length_8abf5_10 : decode cJ0_length_8abf5 10 = .ok (.ireturn, 1) := by decide +kernel
set_option maxRecDepth 20000 in
theorem ggJ0_charAt_5068e_J0_isLatin1_aae02 : GoodIn wsJ0_charAt_5068e wsJ0_isLatin1_aae02 := goodIn_r _ [6, 7, 8, 38, 39, 40, 41] (by decide +kernel) (by decide +kernel)
set_option maxRecDepth 20000 in
theorem gJ0_charAt_5068e_J0_isLatin1_aae02 : GoodIn wsJ0_charAt_5068e (wsV RJ0 492 RJ0 yJ0_isLatin1_aae02 wsJ0_isLatin1_aae02) := goodIn_app (goodIn_of _ (by decide +kernel)) ggJ0_charAt_5068e_J0_isLatin1_aae02
set_option maxRecDepth 20000 in
theorem ggJ0_charAt_5068e_J1_charAt_3b067 : GoodIn wsJ0_charAt_5068e wsJ1_charAt_3b067 := goodIn_r _ [12, 13, 14, 5, 15, 16, 17, 18, 19, 20] (by decide +kernel) (by decide +kernel)
set_option maxRecDepth 20000 in
theorem gJ0_charAt_5068e_J1_charAt_3b067 : GoodIn wsJ0_charAt_5068e (va_wsS RJ0 495 yJ1_charAt_3b067 wsJ1_charAt_3b067) := goodIn_app (goodIn_of _ (by decide +kernel)) ggJ0_charAt_5068e_J1_charAt_3b067
theorem dJ0_charAt_5068e_0 : decode cJ0_charAt_5068e 0 = .ok (.aload_n 0, 1) := by decide +kernel
theorem dJ0_charAt_5068e_1 : decode cJ0_charAt_5068e 1 = .ok (.invokevirtual 492, 3) := by decide +kernel
theorem dJ0_charAt_5068e_4 : decode cJ0_charAt_5068e 4 = .ok (.ifCond .eq 12, 3) := by decide +kernel
theorem dJ0_charAt_5068e_7 : decode cJ0_charAt_5068e 7 = .ok (.aload_n 0, 1) := by decide +kernel
theorem dJ0_charAt_5068e_8 : decode cJ0_charAt_5068e 8 = .ok (.getfield 9, 3) := by decide +kernel
theorem dJ0_charAt_5068e_11 : decode cJ0_charAt_5068e 11 = .ok (.iload_n 1, 1) := by decide +kernel
theorem dJ0_charAt_5068e_12 : decode cJ0_charAt_5068e 12 = .ok (.invokestatic 495, 3) := by decide +kernel
theorem dJ0_charAt_5068e_15 : decode cJ0_charAt_5068e 15 = .ok (.ireturn, 1) := by decide +kernel
theorem dJ0_charAt_5068e_16 : decode cJ0_charAt_5068e 16 = .ok (.aload_n 0, 1) := by decide +kernel
theorem dJ0_charAt_5068e_17 : decode cJ0_charAt_5068e 17 = .ok (.getfield 9, 3) := by decide +kernel
theorem dJ0_charAt_5068e_20 : decode cJ0_charAt_5068e 20 = .ok (.iload_n 1, 1) := by decide +kernel
theorem dJ0_charAt_5068e_21 : decode cJ0_charAt_5068e 21 = .ok (.invokestatic 498, 3) := by decide +kernel
theorem dJ0_charAt_5068e_24 : decode cJ0_charAt_5068e 24 = .ok (.ireturn, 1) := by decide +kernel
set_option maxRecDepth 20000 in
theorem ggJ0_getBytes_840e7_J0_coder_7d493 : GoodIn wsJ0_getBytes_840e7 wsJ0_coder_7d493 := goodIn_r _ [10, 11, 12, 41, 42, 43, 44] (by decide +kernel) (by decide +kernel)
set_option maxRecDepth 20000 in
theorem gJ0_getBytes_840e7_J0_coder_7d493 : GoodIn wsJ0_getBytes_840e7 (wsV RJ0 335 RJ0 yJ0_coder_7d493 wsJ0_coder_7d493) := goodIn_app (goodIn_of _ (by decide +kernel)) ggJ0_getBytes_840e7_J0_coder_7d493
set_option maxRecDepth 20000 in
theorem ggJ0_getBytes_840e7_J1_inflate_0e8fd : GoodIn wsJ0_getBytes_840e7 wsJ1_inflate_0e8fd := goodIn_r _ [16, 17, 18, 19, 20, 21, 22, 23, 24, 25, 26, 27, 28, 9, 29, 30, 31, 32, 33, 34, 35, 36, 37, 38, 39, 40] (by decide +kernel) (by decide +kernel)
set_option maxRecDepth 20000 in
theorem gJ0_getBytes_840e7_J1_inflate_0e8fd : GoodIn wsJ0_getBytes_840e7 (va_wsS RJ0 106 yJ1_inflate_0e8fd wsJ1_inflate_0e8fd) := goodIn_app (goodIn_of _ (by decide +kernel)) ggJ0_getBytes_840e7_J1_inflate_0e8fd
theorem dJ0_getBytes_840e7_0 : decode cJ0_getBytes_840e7 0 = .ok (.aload_n 0, 1) := by decide +kernel
theorem dJ0_getBytes_840e7_1 : decode cJ0_getBytes_840e7 1 = .ok (.invokevirtual 335, 3) := by decide +kernel
theorem dJ0_getBytes_840e7_4 : decode cJ0_getBytes_840e7 4 = .ok (.iload_n 3, 1) := by decide +kernel
theorem dJ0_getBytes_840e7_5 : decode cJ0_getBytes_840e7 5 = .ok (.if_icmp .ne 23, 3) := by decide +kernel
theorem dJ0_getBytes_840e7_8 : decode cJ0_getBytes_840e7 8 = .ok (.aload_n 0, 1) := by decide +kernel
theorem dJ0_getBytes_840e7_9 : decode cJ0_getBytes_840e7 9 = .ok (.getfield 9, 3) := by decide +kernel
theorem dJ0_getBytes_840e7_12 : decode cJ0_getBytes_840e7 12 = .ok (.iconst 0, 1) := by decide +kernel
theorem dJ0_getBytes_840e7_13 : decode cJ0_getBytes_840e7 13 = .ok (.aload_n 1, 1) := by decide +kernel
theorem dJ0_getBytes_840e7_14 : decode cJ0_getBytes_840e7 14 = .ok (.iload_n 2, 1) := by decide +kernel
theorem dJ0_getBytes_840e7_15 : decode cJ0_getBytes_840e7 15 = .ok (.iload_n 3, 1) := by decide +kernel
theorem dJ0_getBytes_840e7_16 : decode cJ0_getBytes_840e7 16 = .ok (.ishl, 1) := by decide +kernel
theorem dJ0_getBytes_840e7_17 : decode cJ0_getBytes_840e7 17 = .ok (.aload_n 0, 1) := by decide +kernel
theorem dJ0_getBytes_840e7_18 : decode cJ0_getBytes_840e7 18 = .ok (.getfield 9, 3) := by decide +kernel
theorem dJ0_getBytes_840e7_21 : decode cJ0_getBytes_840e7 21 = .ok (.arraylength, 1) := by decide +kernel
theorem dJ0_getBytes_840e7_22 : decode cJ0_getBytes_840e7 22 = .ok (.invokestatic 212, 3) := by decide +kernel
theorem dJ0_getBytes_840e7_25 : decode cJ0_getBytes_840e7 25 = .ok (.goto 18, 3) := by decide +kernel
theorem dJ0_getBytes_840e7_28 : decode cJ0_getBytes_840e7 28 = .ok (.aload_n 0, 1) := by decide +kernel
theorem dJ0_getBytes_840e7_29 : decode cJ0_getBytes_840e7 29 = .ok (.getfield 9, 3) := by decide +kernel
theorem dJ0_getBytes_840e7_32 : decode cJ0_getBytes_840e7 32 = .ok (.iconst 0, 1) := by decide +kernel
theorem dJ0_getBytes_840e7_33 : decode cJ0_getBytes_840e7 33 = .ok (.aload_n 1, 1) := by decide +kernel
theorem dJ0_getBytes_840e7_34 : decode cJ0_getBytes_840e7 34 = .ok (.iload_n 2, 1) := by decide +kernel
theorem dJ0_getBytes_840e7_35 : decode cJ0_getBytes_840e7 35 = .ok (.aload_n 0, 1) := by decide +kernel
theorem dJ0_getBytes_840e7_36 : decode cJ0_getBytes_840e7 36 = .ok (.getfield 9, 3) := by decide +kernel
theorem dJ0_getBytes_840e7_39 : decode cJ0_getBytes_840e7 39 = .ok (.arraylength, 1) := by decide +kernel
theorem dJ0_getBytes_840e7_40 : decode cJ0_getBytes_840e7 40 = .ok (.invokestatic 106, 3) := by decide +kernel
theorem dJ0_getBytes_840e7_43 : decode cJ0_getBytes_840e7 43 = .ok (.return_, 1) := by decide +kernel
theorem dJ0_init_db425_0 : decode cJ0_init_db425 0 = .ok (.aload_n 0, 1) := by decide +kernel
theorem dJ0_init_db425_1 : decode cJ0_init_db425 1 = .ok (.invokespecial 1, 3) := by decide +kernel
theorem dJ0_init_db425_4 : decode cJ0_init_db425 4 = .ok (.aload_n 1, 1) := by decide +kernel
theorem dJ0_init_db425_5 : decode cJ0_init_db425 5 = .ok (.invokevirtual 552, 3) := by decide +kernel
theorem dJ0_init_db425_8 : decode cJ0_init_db425 8 = .ok (.astore_n 3, 1) := by decide +kernel
theorem dJ0_init_db425_9 : decode cJ0_init_db425 9 = .ok (.aload_n 1, 1) := by decide +kernel
theorem dJ0_init_db425_10 : decode cJ0_init_db425 10 = .ok (.invokevirtual 549, 3) := by decide +kernel
theorem dJ0_init_db425_13 : decode cJ0_init_db425 13 = .ok (.istore 4, 2) := by decide +kernel
theorem dJ0_init_db425_15 : decode cJ0_init_db425 15 = .ok (.aload_n 1, 1) := by decide +kernel
theorem dJ0_init_db425_16 : decode cJ0_init_db425 16 = .ok (.invokevirtual 1047, 3) := by decide +kernel
theorem dJ0_init_db425_19 : decode cJ0_init_db425 19 = .ok (.ifCond .eq 22, 3) := by decide +kernel
theorem dJ0_init_db425_22 : decode cJ0_init_db425 22 = .ok (.aload_n 0, 1) := by decide +kernel
theorem dJ0_init_db425_23 : decode cJ0_init_db425 23 = .ok (.iconst 0, 1) := by decide +kernel
theorem dJ0_init_db425_24 : decode cJ0_init_db425 24 = .ok (.putfield 15, 3) := by decide +kernel
theorem dJ0_init_db425_27 : decode cJ0_init_db425 27 = .ok (.aload_n 0, 1) := by decide +kernel
theorem dJ0_init_db425_28 : decode cJ0_init_db425 28 = .ok (.aload_n 3, 1) := by decide +kernel
theorem dJ0_init_db425_29 : decode cJ0_init_db425 29 = .ok (.iconst 0, 1) := by decide +kernel
theorem dJ0_init_db425_30 : decode cJ0_init_db425 30 = .ok (.iload 4, 2) := by decide +kernel
theorem dJ0_init_db425_32 : decode cJ0_init_db425 32 = .ok (.invokestatic 54, 3) := by decide +kernel
theorem dJ0_init_db425_35 : decode cJ0_init_db425 35 = .ok (.putfield 9, 3) := by decide +kernel
theorem dJ0_init_db425_38 : decode cJ0_init_db425 38 = .ok (.goto 59, 3) := by decide +kernel
theorem dJ0_init_db425_41 : decode cJ0_init_db425 41 = .ok (.getstatic 38, 3) := by decide +kernel
theorem dJ0_init_db425_44 : decode cJ0_init_db425 44 = .ok (.ifCond .eq 35, 3) := by decide +kernel
theorem dJ0_init_db425_47 : decode cJ0_init_db425 47 = .ok (.aload_n 1, 1) := by decide +kernel
theorem dJ0_init_db425_48 : decode cJ0_init_db425 48 = .ok (.getfield 1048, 3) := by decide +kernel
theorem dJ0_init_db425_51 : decode cJ0_init_db425 51 = .ok (.ifCond .eq 28, 3) := by decide +kernel
theorem dJ0_init_db425_54 : decode cJ0_init_db425 54 = .ok (.aload_n 0, 1) := by decide +kernel
theorem dJ0_init_db425_55 : decode cJ0_init_db425 55 = .ok (.aload_n 3, 1) := by decide +kernel
theorem dJ0_init_db425_56 : decode cJ0_init_db425 56 = .ok (.iconst 0, 1) := by decide +kernel
theorem dJ0_init_db425_57 : decode cJ0_init_db425 57 = .ok (.iload 4, 2) := by decide +kernel
theorem dJ0_init_db425_59 : decode cJ0_init_db425 59 = .ok (.invokestatic 1051, 3) := by decide +kernel
theorem dJ0_init_db425_62 : decode cJ0_init_db425 62 = .ok (.putfield 9, 3) := by decide +kernel
theorem dJ0_init_db425_65 : decode cJ0_init_db425 65 = .ok (.aload_n 0, 1) := by decide +kernel
theorem dJ0_init_db425_66 : decode cJ0_init_db425 66 = .ok (.aload_n 0, 1) := by decide +kernel
theorem dJ0_init_db425_67 : decode cJ0_init_db425 67 = .ok (.getfield 9, 3) := by decide +kernel
theorem dJ0_init_db425_70 : decode cJ0_init_db425 70 = .ok (.iload 4, 2) := by decide +kernel
theorem dJ0_init_db425_72 : decode cJ0_init_db425 72 = .ok (.invokestatic 47, 3) := by decide +kernel
theorem dJ0_init_db425_75 : decode cJ0_init_db425 75 = .ok (.putfield 15, 3) := by decide +kernel
theorem dJ0_init_db425_78 : decode cJ0_init_db425 78 = .ok (.return_, 1) := by decide +kernel
theorem dJ0_init_db425_79 : decode cJ0_init_db425 79 = .ok (.aload_n 0, 1) := by decide +kernel
theorem dJ0_init_db425_80 : decode cJ0_init_db425 80 = .ok (.iconst 1, 1) := by decide +kernel
theorem dJ0_init_db425_81 : decode cJ0_init_db425 81 = .ok (.putfield 15, 3) := by decide +kernel
theorem dJ0_init_db425_84 : decode cJ0_init_db425 84 = .ok (.aload_n 0, 1) := by decide +kernel
theorem dJ0_init_db425_85 : decode cJ0_init_db425 85 = .ok (.aload_n 3, 1) := by decide +kernel
theorem dJ0_init_db425_86 : decode cJ0_init_db425 86 = .ok (.iconst 0, 1) := by decide +kernel
theorem dJ0_init_db425_87 : decode cJ0_init_db425 87 = .ok (.iload 4, 2) := by decide +kernel
theorem dJ0_init_db425_89 : decode cJ0_init_db425 89 = .ok (.iconst 1, 1) := by decide +kernel
theorem dJ0_init_db425_90 : decode cJ0_init_db425 90 = .ok (.ishl, 1) := by decide +kernel
theorem dJ0_init_db425_91 : decode cJ0_init_db425 91 = .ok (.invokestatic 54, 3) := by decide +kernel
theorem dJ0_init_db425_94 : decode cJ0_init_db425 94 = .ok (.putfield 9, 3) := by decide +kernel
theorem dJ0_init_db425_97 : decode cJ0_init_db425 97 = .ok (.return_, 1) := by decide +kernel
theorem dJ0_coder_7d493_0 : decode cJ0_coder_7d493 0 = .ok (.getstatic 38, 3) := by decide +kernel
theorem dJ0_coder_7d493_3 : decode cJ0_coder_7d493 3 = .ok (.ifCond .eq 10, 3) := by decide +kernel
theorem dJ0_coder_7d493_6 : decode cJ0_coder_7d493 6 = .ok (.aload_n 0, 1) := by decide +kernel
theorem dJ0_coder_7d493_7 : decode cJ0_coder_7d493 7 = .ok (.getfield 15, 3) := by decide +kernel
theorem dJ0_coder_7d493_10 : decode cJ0_coder_7d493 10 = .ok (.goto 4, 3) := by decide +kernel
theorem dJ0_coder_7d493_13 : decode cJ0_coder_7d493 13 = .ok (.iconst 1, 1) := by decide +kernel
theorem dJ0_coder_7d493_14 : decode cJ0_coder_7d493 14 = .ok (.ireturn, 1) := by decide +kernel
theorem dJ0_isLatin1_aae02_0 : decode cJ0_isLatin1_aae02 0 = .ok (.getstatic 38, 3) := by decide +kernel
theorem dJ0_isLatin1_aae02_3 : decode cJ0_isLatin1_aae02 3 = .ok (.ifCond .eq 14, 3) := by decide +kernel
theorem dJ0_isLatin1_aae02_6 : decode cJ0_isLatin1_aae02 6 = .ok (.aload_n 0, 1) := by decide +kernel
theorem dJ0_isLatin1_aae02_7 : decode cJ0_isLatin1_aae02 7 = .ok (.getfield 15, 3) := by decide +kernel
theorem dJ0_isLatin1_aae02_10 : decode cJ0_isLatin1_aae02 10 = .ok (.ifCond .ne 7, 3) := by decide +kernel
theorem dJ0_isLatin1_aae02_13 : decode cJ0_isLatin1_aae02 13 = .ok (.iconst 1, 1) := by decide +kernel
theorem dJ0_isLatin1_aae02_14 : decode cJ0_isLatin1_aae02 14 = .ok (.goto 4, 3) := by decide +kernel
theorem dJ0_isLatin1_aae02_17 : decode cJ0_isLatin1_aae02 17 = .ok (.iconst 0, 1) := by decide +kernel
theorem dJ0_isLatin1_aae02_18 : decode cJ0_isLatin1_aae02 18 = .ok (.ireturn, 1) := by decide +kernel
set_option maxRecDepth 20000 in
theorem ggJ0_checkIndex_df160_J3_checkIndex_8e157 : GoodIn wsJ0_checkIndex_df160 wsJ3_checkIndex_8e157 := goodIn_r _ [5] (by decide +kernel) (by decide +kernel)
set_option maxRecDepth 20000 in
theorem gJ0_checkIndex_df160_J3_checkIndex_8e157 : GoodIn wsJ0_checkIndex_df160 (va_wsS RJ0 1059 yJ3_checkIndex_8e157 wsJ3_checkIndex_8e157) := goodIn_app (goodIn_of _ (by decide +kernel)) ggJ0_checkIndex_df160_J3_checkIndex_8e157
theorem dJ0_checkIndex_df160_0 : decode cJ0_checkIndex_df160 0 = .ok (.iload_n 0, 1) := by decide +kernel
theorem dJ0_checkIndex_df160_1 : decode cJ0_checkIndex_df160 1 = .ok (.iload_n 1, 1) := by decide +kernel
theorem dJ0_checkIndex_df160_2 : decode cJ0_checkIndex_df160 2 = .ok (.getstatic 1053, 3) := by decide +kernel
theorem dJ0_checkIndex_df160_5 : decode cJ0_checkIndex_df160 5 = .ok (.invokestatic 1059, 3) := by decide +kernel
theorem dJ0_checkIndex_df160_8 : decode cJ0_checkIndex_df160 8 = .ok (.pop, 1) := by decide +kernel
theorem dJ0_checkIndex_df160_9 : decode cJ0_checkIndex_df160 9 = .ok (.return_, 1) := by decide +kernel
set_option maxRecDepth 20000 in
theorem ggJ0_checkBoundsOffCount_cabcc_J3_checkFromIndexSize_8c36e : GoodIn wsJ0_checkBoundsOffCount_cabcc wsJ3_checkFromIndexSize_8c36e := goodIn_r _ [5] (by decide +kernel) (by decide +kernel)
set_option maxRecDepth 20000 in
theorem gJ0_checkBoundsOffCount_cabcc_J3_checkFromIndexSize_8c36e : GoodIn wsJ0_checkBoundsOffCount_cabcc (va_wsS RJ0 1065 yJ3_checkFromIndexSize_8c36e wsJ3_checkFromIndexSize_8c36e) := goodIn_app (goodIn_of _ (by decide +kernel)) ggJ0_checkBoundsOffCount_cabcc_J3_checkFromIndexSize_8c36e
theorem dJ0_checkBoundsOffCount_cabcc_0 : decode cJ0_checkBoundsOffCount_cabcc 0 = .ok (.iload_n 0, 1) := by decide +kernel
theorem dJ0_checkBoundsOffCount_cabcc_1 : decode cJ0_checkBoundsOffCount_cabcc 1 = .ok (.iload_n 1, 1) := by decide +kernel
theorem dJ0_checkBoundsOffCount_cabcc_2 : decode cJ0_checkBoundsOffCount_cabcc 2 = .ok (.iload_n 2, 1) := by decide +kernel
theorem dJ0_checkBoundsOffCount_cabcc_3 : decode cJ0_checkBoundsOffCount_cabcc 3 = .ok (.getstatic 1053, 3) := by decide +kernel
theorem dJ0_checkBoundsOffCount_cabcc_6 : decode cJ0_checkBoundsOffCount_cabcc 6 = .ok (.invokestatic 1065, 3) := by decide +kernel
theorem dJ0_checkBoundsOffCount_cabcc_9 : decode cJ0_checkBoundsOffCount_cabcc 9 = .ok (.ireturn, 1) := by decide +kernel
set_option maxRecDepth 20000 in
theorem ggJ0_checkBoundsBeginEnd_23922_J3_checkFromToIndex_8c36e : GoodIn wsJ0_checkBoundsBeginEnd_23922 wsJ3_checkFromToIndex_8c36e := goodIn_r _ [5] (by decide +kernel) (by decide +kernel)
set_option maxRecDepth 20000 in
theorem gJ0_checkBoundsBeginEnd_23922_J3_checkFromToIndex_8c36e : GoodIn wsJ0_checkBoundsBeginEnd_23922 (va_wsS RJ0 1062 yJ3_checkFromToIndex_8c36e wsJ3_checkFromToIndex_8c36e) := goodIn_app (goodIn_of _ (by decide +kernel)) ggJ0_checkBoundsBeginEnd_23922_J3_checkFromToIndex_8c36e
theorem dJ0_checkBoundsBeginEnd_23922_0 : decode cJ0_checkBoundsBeginEnd_23922 0 = .ok (.iload_n 0, 1) := by decide +kernel
theorem dJ0_checkBoundsBeginEnd_23922_1 : decode cJ0_checkBoundsBeginEnd_23922 1 = .ok (.iload_n 1, 1) := by decide +kernel
theorem dJ0_checkBoundsBeginEnd_23922_2 : decode cJ0_checkBoundsBeginEnd_23922 2 = .ok (.iload_n 2, 1) := by decide +kernel
theorem dJ0_checkBoundsBeginEnd_23922_3 : decode cJ0_checkBoundsBeginEnd_23922 3 = .ok (.getstatic 1053, 3) := by decide +kernel
theorem dJ0_checkBoundsBeginEnd_23922_6 : decode cJ0_checkBoundsBeginEnd_23922 6 = .ok (.invokestatic 1062, 3) := by decide +kernel
theorem dJ0_checkBoundsBeginEnd_23922_9 : decode cJ0_checkBoundsBeginEnd_23922 9 = .ok (.pop, 1) := by decide +kernel
theorem dJ0_checkBoundsBeginEnd_23922_10 : decode cJ0_checkBoundsBeginEnd_23922 10 = .ok (.return_, 1) := by decide +kernel
set_option maxRecDepth 20000 in
theorem ggJ1_charAt_3b067_J0_checkIndex_df160 : GoodIn wsJ1_charAt_3b067 wsJ0_checkIndex_df160 := goodIn_r _ [4, 5, 6, 7, 8, 9] (by decide +kernel) (by decide +kernel)
set_option maxRecDepth 20000 in
theorem gJ1_charAt_3b067_J0_checkIndex_df160 : GoodIn wsJ1_charAt_3b067 (va_wsS RJ1 9 yJ0_checkIndex_df160 wsJ0_checkIndex_df160) := goodIn_app (goodIn_of _ (by decide +kernel)) ggJ1_charAt_3b067_J0_checkIndex_df160
theorem dJ1_charAt_3b067_0 : decode cJ1_charAt_3b067 0 = .ok (.iload_n 1, 1) := by decide +kernel
theorem dJ1_charAt_3b067_1 : decode cJ1_charAt_3b067 1 = .ok (.aload_n 0, 1) := by decide +kernel
theorem dJ1_charAt_3b067_2 : decode cJ1_charAt_3b067 2 = .ok (.arraylength, 1) := by decide +kernel
theorem dJ1_charAt_3b067_3 : decode cJ1_charAt_3b067 3 = .ok (.invokestatic 9, 3) := by decide +kernel
theorem dJ1_charAt_3b067_6 : decode cJ1_charAt_3b067 6 = .ok (.aload_n 0, 1) := by decide +kernel
theorem dJ1_charAt_3b067_7 : decode cJ1_charAt_3b067 7 = .ok (.iload_n 1, 1) := by decide +kernel
theorem dJ1_charAt_3b067_8 : decode cJ1_charAt_3b067 8 = .ok (.baload, 1) := by decide +kernel
theorem dJ1_charAt_3b067_9 : decode cJ1_charAt_3b067 9 = .ok (.sipush 255, 3) := by decide +kernel
theorem dJ1_charAt_3b067_12 : decode cJ1_charAt_3b067 12 = .ok (.iand, 1) := by decide +kernel
theorem dJ1_charAt_3b067_13 : decode cJ1_charAt_3b067 13 = .ok (.i2c, 1) := by decide +kernel
theorem dJ1_charAt_3b067_14 : decode cJ1_charAt_3b067 14 = .ok (.ireturn, 1) := by decide +kernel
theorem dJ1_canEncode_fc78d_0 : decode cJ1_canEncode_fc78d 0 = .ok (.iload_n 0, 1) := by decide +kernel
theorem dJ1_canEncode_fc78d_1 : decode cJ1_canEncode_fc78d 1 = .ok (.sipush 255, 3) := by decide +kernel
theorem dJ1_canEncode_fc78d_4 : decode cJ1_canEncode_fc78d 4 = .ok (.if_icmp .gt 7, 3) := by decide +kernel
theorem dJ1_canEncode_fc78d_7 : decode cJ1_canEncode_fc78d 7 = .ok (.iconst 1, 1) := by decide +kernel
theorem dJ1_canEncode_fc78d_8 : decode cJ1_canEncode_fc78d 8 = .ok (.goto 4, 3) := by decide +kernel
theorem dJ1_canEncode_fc78d_11 : decode cJ1_canEncode_fc78d 11 = .ok (.iconst 0, 1) := by decide +kernel
theorem dJ1_canEncode_fc78d_12 : decode cJ1_canEncode_fc78d 12 = .ok (.ireturn, 1) := by decide +kernel
theorem dJ1_inflate_0e8fd_0 : decode cJ1_inflate_0e8fd 0 = .ok (.aload_n 0, 1) := by decide +kernel
theorem dJ1_inflate_0e8fd_1 : decode cJ1_inflate_0e8fd 1 = .ok (.iload_n 1, 1) := by decide +kernel
theorem dJ1_inflate_0e8fd_2 : decode cJ1_inflate_0e8fd 2 = .ok (.aload_n 2, 1) := by decide +kernel
theorem dJ1_inflate_0e8fd_3 : decode cJ1_inflate_0e8fd 3 = .ok (.iload_n 3, 1) := by decide +kernel
theorem dJ1_inflate_0e8fd_4 : decode cJ1_inflate_0e8fd 4 = .ok (.iload 4, 2) := by decide +kernel
theorem dJ1_inflate_0e8fd_6 : decode cJ1_inflate_0e8fd 6 = .ok (.invokestatic 240, 3) := by decide +kernel
theorem dJ1_inflate_0e8fd_9 : decode cJ1_inflate_0e8fd 9 = .ok (.return_, 1) := by decide +kernel
theorem dJ3_checkIndex_8e157_0 : decode cJ3_checkIndex_8e157 0 = .ok (.iload_n 0, 1) := by decide +kernel
theorem dJ3_checkIndex_8e157_1 : decode cJ3_checkIndex_8e157 1 = .ok (.ifCond .lt 8, 3) := by decide +kernel
theorem dJ3_checkIndex_8e157_4 : decode cJ3_checkIndex_8e157 4 = .ok (.iload_n 0, 1) := by decide +kernel
theorem dJ3_checkIndex_8e157_5 : decode cJ3_checkIndex_8e157 5 = .ok (.iload_n 1, 1) := by decide +kernel
theorem dJ3_checkIndex_8e157_6 : decode cJ3_checkIndex_8e157 6 = .ok (.if_icmp .lt 10, 3) := by decide +kernel
theorem dJ3_checkIndex_8e157_9 : decode cJ3_checkIndex_8e157 9 = .ok (.aload_n 2, 1) := by decide +kernel
theorem dJ3_checkIndex_8e157_10 : decode cJ3_checkIndex_8e157 10 = .ok (.iload_n 0, 1) := by decide +kernel
theorem dJ3_checkIndex_8e157_11 : decode cJ3_checkIndex_8e157 11 = .ok (.iload_n 1, 1) := by decide +kernel
theorem dJ3_checkIndex_8e157_12 : decode cJ3_checkIndex_8e157 12 = .ok (.invokestatic 95, 3) := by decide +kernel
theorem dJ3_checkIndex_8e157_15 : decode cJ3_checkIndex_8e157 15 = .ok (.athrow, 1) := by decide +kernel
theorem dJ3_checkIndex_8e157_16 : decode cJ3_checkIndex_8e157 16 = .ok (.iload_n 0, 1) := by decide +kernel
theorem dJ3_checkIndex_8e157_17 : decode cJ3_checkIndex_8e157 17 = .ok (.ireturn, 1) := by decide +kernel
theorem dJ3_checkFromToIndex_8c36e_0 : decode cJ3_checkFromToIndex_8c36e 0 = .ok (.iload_n 0, 1) := by decide +kernel
theorem dJ3_checkFromToIndex_8c36e_1 : decode cJ3_checkFromToIndex_8c36e 1 = .ok (.ifCond .lt 13, 3) := by decide +kernel
theorem dJ3_checkFromToIndex_8c36e_4 : decode cJ3_checkFromToIndex_8c36e 4 = .ok (.iload_n 0, 1) := by decide +kernel
theorem dJ3_checkFromToIndex_8c36e_5 : decode cJ3_checkFromToIndex_8c36e 5 = .ok (.iload_n 1, 1) := by decide +kernel
theorem dJ3_checkFromToIndex_8c36e_6 : decode cJ3_checkFromToIndex_8c36e 6 = .ok (.if_icmp .gt 8, 3) := by decide +kernel
theorem dJ3_checkFromToIndex_8c36e_9 : decode cJ3_checkFromToIndex_8c36e 9 = .ok (.iload_n 1, 1) := by decide +kernel
theorem dJ3_checkFromToIndex_8c36e_10 : decode cJ3_checkFromToIndex_8c36e 10 = .ok (.iload_n 2, 1) := by decide +kernel
theorem dJ3_checkFromToIndex_8c36e_11 : decode cJ3_checkFromToIndex_8c36e 11 = .ok (.if_icmp .le 11, 3) := by decide +kernel
theorem dJ3_checkFromToIndex_8c36e_14 : decode cJ3_checkFromToIndex_8c36e 14 = .ok (.aload_n 3, 1) := by decide +kernel
theorem dJ3_checkFromToIndex_8c36e_15 : decode cJ3_checkFromToIndex_8c36e 15 = .ok (.iload_n 0, 1) := by decide +kernel
theorem dJ3_checkFromToIndex_8c36e_16 : decode cJ3_checkFromToIndex_8c36e 16 = .ok (.iload_n 1, 1) := by decide +kernel
theorem dJ3_checkFromToIndex_8c36e_17 : decode cJ3_checkFromToIndex_8c36e 17 = .ok (.iload_n 2, 1) := by decide +kernel
theorem dJ3_checkFromToIndex_8c36e_18 : decode cJ3_checkFromToIndex_8c36e 18 = .ok (.invokestatic 99, 3) := by decide +kernel
theorem dJ3_checkFromToIndex_8c36e_21 : decode cJ3_checkFromToIndex_8c36e 21 = .ok (.athrow, 1) := by decide +kernel
theorem dJ3_checkFromToIndex_8c36e_22 : decode cJ3_checkFromToIndex_8c36e 22 = .ok (.iload_n 0, 1) := by decide +kernel
theorem dJ3_checkFromToIndex_8c36e_23 : decode cJ3_checkFromToIndex_8c36e 23 = .ok (.ireturn, 1) := by decide +kernel
theorem dJ3_checkFromIndexSize_8c36e_0 : decode cJ3_checkFromIndexSize_8c36e 0 = .ok (.iload_n 2, 1) := by decide +kernel
theorem dJ3_checkFromIndexSize_8c36e_1 : decode cJ3_checkFromIndexSize_8c36e 1 = .ok (.iload_n 0, 1) := by decide +kernel
theorem dJ3_checkFromIndexSize_8c36e_2 : decode cJ3_checkFromIndexSize_8c36e 2 = .ok (.ior, 1) := by decide +kernel
theorem dJ3_checkFromIndexSize_8c36e_3 : decode cJ3_checkFromIndexSize_8c36e 3 = .ok (.iload_n 1, 1) := by decide +kernel
theorem dJ3_checkFromIndexSize_8c36e_4 : decode cJ3_checkFromIndexSize_8c36e 4 = .ok (.ior, 1) := by decide +kernel
theorem dJ3_checkFromIndexSize_8c36e_5 : decode cJ3_checkFromIndexSize_8c36e 5 = .ok (.ifCond .lt 10, 3) := by decide +kernel
theorem dJ3_checkFromIndexSize_8c36e_8 : decode cJ3_checkFromIndexSize_8c36e 8 = .ok (.iload_n 1, 1) := by decide +kernel
theorem dJ3_checkFromIndexSize_8c36e_9 : decode cJ3_checkFromIndexSize_8c36e 9 = .ok (.iload_n 2, 1) := by decide +kernel
theorem dJ3_checkFromIndexSize_8c36e_10 : decode cJ3_checkFromIndexSize_8c36e 10 = .ok (.iload_n 0, 1) := by decide +kernel
theorem dJ3_checkFromIndexSize_8c36e_11 : decode cJ3_checkFromIndexSize_8c36e 11 = .ok (.isub, 1) := by decide +kernel
theorem dJ3_checkFromIndexSize_8c36e_12 : decode cJ3_checkFromIndexSize_8c36e 12 = .ok (.if_icmp .le 11, 3) := by decide +kernel
theorem dJ3_checkFromIndexSize_8c36e_15 : decode cJ3_checkFromIndexSize_8c36e 15 = .ok (.aload_n 3, 1) := by decide +kernel
theorem dJ3_checkFromIndexSize_8c36e_16 : decode cJ3_checkFromIndexSize_8c36e 16 = .ok (.iload_n 0, 1) := by decide +kernel
theorem dJ3_checkFromIndexSize_8c36e_17 : decode cJ3_checkFromIndexSize_8c36e 17 = .ok (.iload_n 1, 1) := by decide +kernel
theorem dJ3_checkFromIndexSize_8c36e_18 : decode cJ3_checkFromIndexSize_8c36e 18 = .ok (.iload_n 2, 1) := by decide +kernel
theorem dJ3_checkFromIndexSize_8c36e_19 : decode cJ3_checkFromIndexSize_8c36e 19 = .ok (.invokestatic 103, 3) := by decide +kernel
theorem dJ3_checkFromIndexSize_8c36e_22 : decode cJ3_checkFromIndexSize_8c36e 22 = .ok (.athrow, 1) := by decide +kernel
theorem dJ3_checkFromIndexSize_8c36e_23 : decode cJ3_checkFromIndexSize_8c36e 23 = .ok (.iload_n 0, 1) := by decide +kernel
theorem dJ3_checkFromIndexSize_8c36e_24 : decode cJ3_checkFromIndexSize_8c36e 24 = .ok (.ireturn, 1) := by decide +kernel
abbrev vwCl : List vw_C := [(RX0, TX0, 5), (RX1, TX1, 9), (RX2, TX2, 3), (RX3, TX3, 5), (RX4, TX4, 10), (RX5, TX5, 12), (RJ0, TJ0, 4), (RJ4, TJ4, 4)]
