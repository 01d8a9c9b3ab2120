abbrev cX6_init : ByteArray := prog_8_method_1_code
def yX6_init : MethodName := ⟨RX6, "<init>", "()V"⟩
abbrev cX6_thrown : ByteArray := prog_8_method_2_code
def yX6_thrown : MethodName := ⟨RX6, "thrown", "()I"⟩
abbrev cX6_refuse : ByteArray := prog_8_method_3_code
def yX6_refuse : MethodName := ⟨RX6, "refuse", "(I)I"⟩
abbrev cX6_told : ByteArray := prog_8_method_4_code
def yX6_told : MethodName := ⟨RX6, "told", "(I)I"⟩
abbrev cX6_in : ByteArray := prog_8_method_5_code
def yX6_in : MethodName := ⟨RX6, "in", "(III)Z"⟩
abbrev cX6_isPlace : ByteArray := prog_8_method_6_code
def yX6_isPlace : MethodName := ⟨RX6, "isPlace", "(I)Z"⟩
abbrev cX6_isMove : ByteArray := prog_8_method_7_code
def yX6_isMove : MethodName := ⟨RX6, "isMove", "(I)Z"⟩
abbrev cX6_isSet : ByteArray := prog_8_method_8_code
def yX6_isSet : MethodName := ⟨RX6, "isSet", "(I)Z"⟩
abbrev cX6_has : ByteArray := prog_8_method_9_code
def yX6_has : MethodName := ⟨RX6, "has", "(II)Z"⟩
abbrev cX6_joins : ByteArray := prog_8_method_10_code
def yX6_joins : MethodName := ⟨RX6, "joins", "(II)V"⟩
abbrev cX6_leads : ByteArray := prog_8_method_11_code
def yX6_leads : MethodName := ⟨RX6, "leads", "(II)V"⟩
abbrev cX6_hears : ByteArray := prog_8_method_12_code
def yX6_hears : MethodName := ⟨RX6, "hears", "(I)V"⟩
abbrev cX6_lays : ByteArray := prog_8_method_13_code
def yX6_lays : MethodName := ⟨RX6, "lays", "(I)V"⟩
abbrev cX6_between : ByteArray := prog_8_method_14_code
def yX6_between : MethodName := ⟨RX6, "between", "(II)I"⟩
abbrev cX6_weighs : ByteArray := prog_8_method_15_code
def yX6_weighs : MethodName := ⟨RX6, "weighs", "()V"⟩
abbrev cX6_over : ByteArray := prog_8_method_16_code
def yX6_over : MethodName := ⟨RX6, "over", "(II)I"⟩
abbrev cX6_lifted : ByteArray := prog_8_method_17_code
def yX6_lifted : MethodName := ⟨RX6, "lifted", "(I)I"⟩
abbrev cX6_solved : ByteArray := prog_8_method_18_code
def yX6_solved : MethodName := ⟨RX6, "solved", "()I"⟩
abbrev cX6_looksAtAll : ByteArray := prog_8_method_19_code
def yX6_looksAtAll : MethodName := ⟨RX6, "looksAtAll", "()V"⟩
abbrev cX6_wonByEven : ByteArray := prog_8_method_20_code
def yX6_wonByEven : MethodName := ⟨RX6, "wonByEven", "()I"⟩
abbrev cX6_all : ByteArray := prog_8_method_21_code
def yX6_all : MethodName := ⟨RX6, "all", "()I"⟩
abbrev cX6_wonBy : ByteArray := prog_8_method_22_code
def yX6_wonBy : MethodName := ⟨RX6, "wonBy", "(I)I"⟩
abbrev cX6_only : ByteArray := prog_8_method_23_code
def yX6_only : MethodName := ⟨RX6, "only", "(II)V"⟩
abbrev cX6_firstMove : ByteArray := prog_8_method_24_code
def yX6_firstMove : MethodName := ⟨RX6, "firstMove", "(I)I"⟩
abbrev cX6_plansFor : ByteArray := prog_8_method_25_code
def yX6_plansFor : MethodName := ⟨RX6, "plansFor", "(II)V"⟩
abbrev cX6_plans : ByteArray := prog_8_method_26_code
def yX6_plans : MethodName := ⟨RX6, "plans", "()V"⟩
abbrev cX6_plays : ByteArray := prog_8_method_27_code
def yX6_plays : MethodName := ⟨RX6, "plays", "(I)V"⟩
abbrev cX6_forces : ByteArray := prog_8_method_28_code
def yX6_forces : MethodName := ⟨RX6, "forces", "(III)Z"⟩
abbrev cX6_forcing : ByteArray := prog_8_method_29_code
def yX6_forcing : MethodName := ⟨RX6, "forcing", "(II)I"⟩
abbrev cX6_pulls : ByteArray := prog_8_method_30_code
def yX6_pulls : MethodName := ⟨RX6, "pulls", "(II)I"⟩
abbrev cX6_leaves : ByteArray := prog_8_method_31_code
def yX6_leaves : MethodName := ⟨RX6, "leaves", "(III)Z"⟩
abbrev cX6_stays : ByteArray := prog_8_method_32_code
def yX6_stays : MethodName := ⟨RX6, "stays", "(II)I"⟩
abbrev cX6_comesBack : ByteArray := prog_8_method_33_code
def yX6_comesBack : MethodName := ⟨RX6, "comesBack", "(II)I"⟩
abbrev cX6_remembers : ByteArray := prog_8_method_34_code
def yX6_remembers : MethodName := ⟨RX6, "remembers", "()V"⟩
abbrev cX6_putsAside : ByteArray := prog_8_method_35_code
def yX6_putsAside : MethodName := ⟨RX6, "putsAside", "()V"⟩
abbrev cX6_putsBack : ByteArray := prog_8_method_36_code
def yX6_putsBack : MethodName := ⟨RX6, "putsBack", "()V"⟩
abbrev cX6_isLetter : ByteArray := prog_8_method_37_code
def yX6_isLetter : MethodName := ⟨RX6, "isLetter", "(I)Z"⟩
abbrev cX6_isDigit : ByteArray := prog_8_method_38_code
def yX6_isDigit : MethodName := ⟨RX6, "isDigit", "(I)Z"⟩
abbrev cX6_next : ByteArray := prog_8_method_39_code
def yX6_next : MethodName := ⟨RX6, "next", "()V"⟩
abbrev cX6_errs : ByteArray := prog_8_method_40_code
def yX6_errs : MethodName := ⟨RX6, "errs", "(I)V"⟩
abbrev cX6_isKey : ByteArray := prog_8_method_41_code
def yX6_isKey : MethodName := ⟨RX6, "isKey", "(I)Z"⟩
abbrev cX6_readsPlaces : ByteArray := prog_8_method_42_code
def yX6_readsPlaces : MethodName := ⟨RX6, "readsPlaces", "(I)V"⟩
abbrev cX6_thePlace : ByteArray := prog_8_method_43_code
def yX6_thePlace : MethodName := ⟨RX6, "thePlace", "()I"⟩
abbrev cX6_readsMoves : ByteArray := prog_8_method_44_code
def yX6_readsMoves : MethodName := ⟨RX6, "readsMoves", "()V"⟩
abbrev cX6_readsLine : ByteArray := prog_8_method_45_code
def yX6_readsLine : MethodName := ⟨RX6, "readsLine", "()V"⟩
abbrev cX6_readsText : ByteArray := prog_8_method_46_code
def yX6_readsText : MethodName := ⟨RX6, "readsText", "(I)V"⟩
abbrev cX6_feeds : ByteArray := prog_8_method_47_code
def yX6_feeds : MethodName := ⟨RX6, "feeds", "(I)V"⟩
abbrev cX6_feed : ByteArray := prog_8_method_48_code
def yX6_feed : MethodName := ⟨RX6, "feed", "(IIIII)I"⟩
abbrev cX6_load : ByteArray := prog_8_method_49_code
def yX6_load : MethodName := ⟨RX6, "load", "(I)I"⟩
abbrev cX6_errorCode : ByteArray := prog_8_method_50_code
def yX6_errorCode : MethodName := ⟨RX6, "errorCode", "()I"⟩
abbrev cX6_errorPosition : ByteArray := prog_8_method_51_code
def yX6_errorPosition : MethodName := ⟨RX6, "errorPosition", "()I"⟩
abbrev cX6_movesAt : ByteArray := prog_8_method_52_code
def yX6_movesAt : MethodName := ⟨RX6, "movesAt", "(II)I"⟩
abbrev cX6_greatestCall : ByteArray := prog_8_method_53_code
def yX6_greatestCall : MethodName := ⟨RX6, "greatestCall", "()I"⟩
abbrev cX6_size : ByteArray := prog_8_method_54_code
def yX6_size : MethodName := ⟨RX6, "size", "(I)I"⟩
abbrev cX6_winner : ByteArray := prog_8_method_55_code
def yX6_winner : MethodName := ⟨RX6, "winner", "(I)I"⟩
abbrev cX6_place : ByteArray := prog_8_method_56_code
def yX6_place : MethodName := ⟨RX6, "place", "(II)I"⟩
abbrev cX6_move : ByteArray := prog_8_method_57_code
def yX6_move : MethodName := ⟨RX6, "move", "(II)I"⟩
abbrev cX6_moveBetween : ByteArray := prog_8_method_58_code
def yX6_moveBetween : MethodName := ⟨RX6, "moveBetween", "(II)I"⟩
abbrev cX6_heard : ByteArray := prog_8_method_59_code
def yX6_heard : MethodName := ⟨RX6, "heard", "(I)I"⟩
abbrev cX6_many : ByteArray := prog_8_method_60_code
def yX6_many : MethodName := ⟨RX6, "many", "(I)I"⟩
abbrev cX6_won : ByteArray := prog_8_method_61_code
def yX6_won : MethodName := ⟨RX6, "won", "(I)I"⟩
abbrev cX6_shareOf : ByteArray := prog_8_method_62_code
def yX6_shareOf : MethodName := ⟨RX6, "shareOf", "(I)F"⟩
abbrev cX6_wonShare : ByteArray := prog_8_method_63_code
def yX6_wonShare : MethodName := ⟨RX6, "wonShare", "(I)F"⟩
abbrev cX6_wonBits : ByteArray := prog_8_method_64_code
def yX6_wonBits : MethodName := ⟨RX6, "wonBits", "(I)I"⟩
abbrev cX6_meanCall : ByteArray := prog_8_method_65_code
def yX6_meanCall : MethodName := ⟨RX6, "meanCall", "(I)D"⟩
abbrev cX6_plan : ByteArray := prog_8_method_66_code
def yX6_plan : MethodName := ⟨RX6, "plan", "(I)I"⟩
abbrev cX6_follow : ByteArray := prog_8_method_67_code
def yX6_follow : MethodName := ⟨RX6, "follow", "(II)I"⟩
abbrev cX6_play : ByteArray := prog_8_method_68_code
def yX6_play : MethodName := ⟨RX6, "play", "(II)I"⟩
abbrev cX6_pull : ByteArray := prog_8_method_69_code
def yX6_pull : MethodName := ⟨RX6, "pull", "(II)I"⟩
abbrev cX6_pullIn : ByteArray := prog_8_method_70_code
def yX6_pullIn : MethodName := ⟨RX6, "pullIn", "(III)I"⟩
abbrev cX6_stay : ByteArray := prog_8_method_71_code
def yX6_stay : MethodName := ⟨RX6, "stay", "(II)I"⟩
abbrev cX6_comeBack : ByteArray := prog_8_method_72_code
def yX6_comeBack : MethodName := ⟨RX6, "comeBack", "(II)I"⟩
abbrev cX6_isTrap : ByteArray := prog_8_method_73_code
def yX6_isTrap : MethodName := ⟨RX6, "isTrap", "(II)Z"⟩
abbrev cX6_canHear : ByteArray := prog_8_method_74_code
def yX6_canHear : MethodName := ⟨RX6, "canHear", "(II)I"⟩
abbrev cX6_wonIfCall : ByteArray := prog_8_method_75_code
def yX6_wonIfCall : MethodName := ⟨RX6, "wonIfCall", "(II)I"⟩
abbrev cX6_wonOther : ByteArray := prog_8_method_76_code
def yX6_wonOther : MethodName := ⟨RX6, "wonOther", "(I)I"⟩
abbrev cX6_wonIfOther : ByteArray := prog_8_method_77_code
def yX6_wonIfOther : MethodName := ⟨RX6, "wonIfOther", "(I)I"⟩
abbrev cX6_wonBut : ByteArray := prog_8_method_78_code
def yX6_wonBut : MethodName := ⟨RX6, "wonBut", "(I)I"⟩
abbrev cX6_wonWithout : ByteArray := prog_8_method_79_code
def yX6_wonWithout : MethodName := ⟨RX6, "wonWithout", "(I)I"⟩
abbrev cX6_wonWith : ByteArray := prog_8_method_80_code
def yX6_wonWith : MethodName := ⟨RX6, "wonWith", "(II)I"⟩
abbrev cX6_leastCall : ByteArray := prog_8_method_81_code
def yX6_leastCall : MethodName := ⟨RX6, "leastCall", "(III)I"⟩
abbrev cX6_neededMoves : ByteArray := prog_8_method_82_code
def yX6_neededMoves : MethodName := ⟨RX6, "neededMoves", "()I"⟩
abbrev cX6_keyPlace : ByteArray := prog_8_method_83_code
def yX6_keyPlace : MethodName := ⟨RX6, "keyPlace", "()I"⟩
abbrev cX6_addPlace : ByteArray := prog_8_method_84_code
def yX6_addPlace : MethodName := ⟨RX6, "addPlace", "(II)I"⟩
abbrev cX6_drops : ByteArray := prog_8_method_85_code
def yX6_drops : MethodName := ⟨RX6, "drops", "(I)V"⟩
abbrev cX6_removePlace : ByteArray := prog_8_method_86_code
def yX6_removePlace : MethodName := ⟨RX6, "removePlace", "(I)I"⟩
abbrev cX6_sets : ByteArray := prog_8_method_87_code
def yX6_sets : MethodName := ⟨RX6, "sets", "(II)I"⟩
abbrev cX6_setOwner : ByteArray := prog_8_method_88_code
def yX6_setOwner : MethodName := ⟨RX6, "setOwner", "(II)I"⟩
abbrev cX6_setCall : ByteArray := prog_8_method_89_code
def yX6_setCall : MethodName := ⟨RX6, "setCall", "(II)I"⟩
abbrev cX6_addMove : ByteArray := prog_8_method_90_code
def yX6_addMove : MethodName := ⟨RX6, "addMove", "(II)I"⟩
abbrev cX6_removeMove : ByteArray := prog_8_method_91_code
def yX6_removeMove : MethodName := ⟨RX6, "removeMove", "(I)I"⟩
abbrev cX6_preferMove : ByteArray := prog_8_method_92_code
def yX6_preferMove : MethodName := ⟨RX6, "preferMove", "(I)I"⟩
abbrev cX6_exchange : ByteArray := prog_8_method_93_code
def yX6_exchange : MethodName := ⟨RX6, "exchange", "()I"⟩
abbrev cX6_lay : ByteArray := prog_8_method_94_code
def yX6_lay : MethodName := ⟨RX6, "lay", "(I)I"⟩
abbrev cX6_goes : ByteArray := prog_8_method_95_code
def yX6_goes : MethodName := ⟨RX6, "goes", "(I)V"⟩
abbrev cX6_go : ByteArray := prog_8_method_96_code
def yX6_go : MethodName := ⟨RX6, "go", "(I)I"⟩
abbrev cX6_run : ByteArray := prog_8_method_97_code
def yX6_run : MethodName := ⟨RX6, "run", "(I)I"⟩
abbrev cX6_restore : ByteArray := prog_8_method_98_code
def yX6_restore : MethodName := ⟨RX6, "restore", "(I)I"⟩
abbrev cX6_undo : ByteArray := prog_8_method_99_code
def yX6_undo : MethodName := ⟨RX6, "undo", "()I"⟩
abbrev cX6_save : ByteArray := prog_8_method_100_code
def yX6_save : MethodName := ⟨RX6, "save", "(I)I"⟩
abbrev cX6_writes : ByteArray := prog_8_method_101_code
def yX6_writes : MethodName := ⟨RX6, "writes", "(I)V"⟩
abbrev cX6_writePlaces : ByteArray := prog_8_method_102_code
def yX6_writePlaces : MethodName := ⟨RX6, "writePlaces", "()I"⟩
abbrev cX6_outputByte : ByteArray := prog_8_method_103_code
def yX6_outputByte : MethodName := ⟨RX6, "outputByte", "(I)I"⟩
def wsX6_joins : List Cond := .code yX6_joins cX6_joins 3 none :: ([.fieldLink RX6 13 "ParityGameModel" "now" "[I"] ++ wsX60)
def wsX6_leads : List Cond := .code yX6_leads cX6_leads 3 none :: ([.fieldLink RX6 13 "ParityGameModel" "now" "[I"] ++ wsX60)
def wsX6_hears : List Cond := .code yX6_hears cX6_hears 2 none :: ([.fieldLink RX6 13 "ParityGameModel" "now" "[I"] ++ wsX60)
def wsX6_lays : List Cond := .code yX6_lays cX6_lays 3 none :: ([.fieldLink RX6 13 "ParityGameModel" "now" "[I", .methodLink RX6 72 yX6_hears, .instanceMethod yX6_hears, .selects RX6 yX6_hears yX6_hears, .initialized RX6, .code yX6_hears cX6_hears 2 none] ++ wsX60)
def wsX6_init_r1 : List Cond := [Cond.methodLink RX6 1 objectInit, Cond.instanceMethod objectInit, Cond.code objectInit ⟨#[0xb1]⟩ 1 none, Cond.arrayClass .int, Cond.fieldLink RX6 7 "ParityGameModel" "keys" "[I", Cond.fieldLink RX6 13 "ParityGameModel" "now" "[I", Cond.fieldLink RX6 16 "ParityGameModel" "aside" "[I", Cond.fieldLink RX6 19 "ParityGameModel" "old" "[I", Cond.fieldLink RX6 22 "ParityGameModel" "saved" "[I", Cond.arrayClass .byte, Cond.fieldLink RX6 25 "ParityGameModel" "input" "[B", Cond.fieldLink RX6 29 "ParityGameModel" "output" "[B", Cond.fieldLink RX6 32 "ParityGameModel" "errorPosition" "I", Cond.fieldLink RX6 36 "ParityGameModel" "live" "[I", Cond.fieldLink RX6 39 "ParityGameModel" "weight" "[I", Cond.fieldLink RX6 42 "ParityGameModel" "measure" "[I", Cond.fieldLink RX6 45 "ParityGameModel" "planned" "[I", Cond.fieldLink RX6 48 "ParityGameModel" "came" "[I", Cond.fieldLink RX6 51 "ParityGameModel" "rank" "[I", Cond.methodLink RX6 54 yX6_joins, Cond.instanceMethod yX6_joins, Cond.selects RX6 yX6_joins yX6_joins, Cond.initialized RX6, Cond.code yX6_joins cX6_joins 3 none]
def wsX6_init_r2 : List Cond := [Cond.methodLink RX6 58 yX6_leads, Cond.instanceMethod yX6_leads, Cond.selects RX6 yX6_leads yX6_leads, Cond.code yX6_leads cX6_leads 3 none, Cond.methodLink RX6 61 yX6_lays, Cond.instanceMethod yX6_lays, Cond.selects RX6 yX6_lays yX6_lays, Cond.code yX6_lays cX6_lays 3 none, Cond.methodLink RX6 72 yX6_hears, Cond.instanceMethod yX6_hears, Cond.selects RX6 yX6_hears yX6_hears, Cond.code yX6_hears cX6_hears 2 none]
def wsX6_init : List Cond := .code yX6_init cX6_init 1 none :: ((wsX6_init_r1 ++ wsX6_init_r2) ++ wsX60)
def wsX6_thrown : List Cond := .code yX6_thrown cX6_thrown 1 (some .int) :: ([.fieldLink RX6 65 "ParityGameModel" "thrown" "I"] ++ wsX60)
def wsX6_refuse : List Cond := .code yX6_refuse cX6_refuse 2 (some .int) :: ([.fieldLink RX6 65 "ParityGameModel" "thrown" "I"] ++ wsX60)
def wsX6_told : List Cond := .code yX6_told cX6_told 2 (some .int) :: ([.fieldLink RX6 65 "ParityGameModel" "thrown" "I"] ++ wsX60)
def wsX6_in : List Cond := .code yX6_in cX6_in 3 (some .boolean) :: ([])
def wsX6_isPlace : List Cond := .code yX6_isPlace cX6_isPlace 2 (some .boolean) :: ([.fieldLink RX6 13 "ParityGameModel" "now" "[I", .methodLink RX6 68 yX6_in, .static yX6_in, .initialized RX6, .code yX6_in cX6_in 3 (some .boolean)] ++ wsX60)
def wsX6_isMove : List Cond := .code yX6_isMove cX6_isMove 2 (some .boolean) :: ([.fieldLink RX6 13 "ParityGameModel" "now" "[I", .methodLink RX6 68 yX6_in, .static yX6_in, .initialized RX6, .code yX6_in cX6_in 3 (some .boolean)] ++ wsX60)
def wsX6_isSet : List Cond := .code yX6_isSet cX6_isSet 2 (some .boolean) :: ([.fieldLink RX6 13 "ParityGameModel" "now" "[I"] ++ wsX60)
def wsX6_has : List Cond := .code yX6_has cX6_has 2 (some .boolean) :: ([])
def wsX6_between : List Cond := .code yX6_between cX6_between 4 (some .int) :: ([.fieldLink RX6 13 "ParityGameModel" "now" "[I"] ++ wsX60)
def wsX6_weighs : List Cond := .code yX6_weighs cX6_weighs 5 none :: ([.fieldLink RX6 39 "ParityGameModel" "weight" "[I", .fieldLink RX6 13 "ParityGameModel" "now" "[I", .fieldLink RX6 75 "ParityGameModel" "top" "I"] ++ wsX60)
def wsX6_over : List Cond := .code yX6_over cX6_over 4 (some .int) :: ([.fieldLink RX6 75 "ParityGameModel" "top" "I", .fieldLink RX6 39 "ParityGameModel" "weight" "[I"] ++ wsX60)
def wsX6_lifted : List Cond := .code yX6_lifted cX6_lifted 6 (some .int) :: ([.fieldLink RX6 13 "ParityGameModel" "now" "[I", .fieldLink RX6 36 "ParityGameModel" "live" "[I", .fieldLink RX6 42 "ParityGameModel" "measure" "[I", .fieldLink RX6 75 "ParityGameModel" "top" "I", .methodLink RX6 78 yX6_over, .instanceMethod yX6_over, .selects RX6 yX6_over yX6_over, .initialized RX6, .code yX6_over cX6_over 4 (some .int), .fieldLink RX6 39 "ParityGameModel" "weight" "[I"] ++ wsX60)
def wsX6_solved : List Cond := .code yX6_solved cX6_solved 4 (some .int) :: ([.fieldLink RX6 13 "ParityGameModel" "now" "[I", .fieldLink RX6 42 "ParityGameModel" "measure" "[I", .fieldLink RX6 75 "ParityGameModel" "top" "I", .methodLink RX6 82 yX6_weighs, .instanceMethod yX6_weighs, .selects RX6 yX6_weighs yX6_weighs, .initialized RX6, .code yX6_weighs cX6_weighs 5 none, .fieldLink RX6 39 "ParityGameModel" "weight" "[I", .methodLink RX6 85 yX6_lifted, .instanceMethod yX6_lifted, .selects RX6 yX6_lifted yX6_lifted, .code yX6_lifted cX6_lifted 6 (some .int), .fieldLink RX6 36 "ParityGameModel" "live" "[I", .methodLink RX6 78 yX6_over, .instanceMethod yX6_over, .selects RX6 yX6_over yX6_over, .code yX6_over cX6_over 4 (some .int)] ++ wsX60)
def wsX6_looksAtAll : List Cond := .code yX6_looksAtAll cX6_looksAtAll 2 none :: ([.fieldLink RX6 13 "ParityGameModel" "now" "[I", .fieldLink RX6 36 "ParityGameModel" "live" "[I"] ++ wsX60)
def wsX6_wonByEven_r1 : List Cond := [Cond.methodLink RX6 89 yX6_looksAtAll, Cond.instanceMethod yX6_looksAtAll, Cond.selects RX6 yX6_looksAtAll yX6_looksAtAll, Cond.initialized RX6, Cond.code yX6_looksAtAll cX6_looksAtAll 2 none, Cond.fieldLink RX6 13 "ParityGameModel" "now" "[I", Cond.fieldLink RX6 36 "ParityGameModel" "live" "[I", Cond.methodLink RX6 92 yX6_solved, Cond.instanceMethod yX6_solved, Cond.selects RX6 yX6_solved yX6_solved, Cond.code yX6_solved cX6_solved 4 (some .int), Cond.fieldLink RX6 42 "ParityGameModel" "measure" "[I", Cond.fieldLink RX6 75 "ParityGameModel" "top" "I", Cond.methodLink RX6 82 yX6_weighs, Cond.instanceMethod yX6_weighs, Cond.selects RX6 yX6_weighs yX6_weighs, Cond.code yX6_weighs cX6_weighs 5 none, Cond.fieldLink RX6 39 "ParityGameModel" "weight" "[I", Cond.methodLink RX6 85 yX6_lifted, Cond.instanceMethod yX6_lifted, Cond.selects RX6 yX6_lifted yX6_lifted, Cond.code yX6_lifted cX6_lifted 6 (some .int), Cond.methodLink RX6 78 yX6_over, Cond.instanceMethod yX6_over]
def wsX6_wonByEven_r2 : List Cond := [Cond.selects RX6 yX6_over yX6_over, Cond.code yX6_over cX6_over 4 (some .int)]
def wsX6_wonByEven : List Cond := .code yX6_wonByEven cX6_wonByEven 1 (some .int) :: ((wsX6_wonByEven_r1 ++ wsX6_wonByEven_r2) ++ wsX60)
def wsX6_all : List Cond := .code yX6_all cX6_all 1 (some .int) :: ([.fieldLink RX6 13 "ParityGameModel" "now" "[I"] ++ wsX60)
def wsX6_wonBy_r1 : List Cond := [Cond.methodLink RX6 96 yX6_wonByEven, Cond.instanceMethod yX6_wonByEven, Cond.selects RX6 yX6_wonByEven yX6_wonByEven, Cond.initialized RX6, Cond.code yX6_wonByEven cX6_wonByEven 1 (some .int), Cond.methodLink RX6 89 yX6_looksAtAll, Cond.instanceMethod yX6_looksAtAll, Cond.selects RX6 yX6_looksAtAll yX6_looksAtAll, Cond.code yX6_looksAtAll cX6_looksAtAll 2 none, Cond.fieldLink RX6 13 "ParityGameModel" "now" "[I", Cond.fieldLink RX6 36 "ParityGameModel" "live" "[I", Cond.methodLink RX6 92 yX6_solved, Cond.instanceMethod yX6_solved, Cond.selects RX6 yX6_solved yX6_solved, Cond.code yX6_solved cX6_solved 4 (some .int), Cond.fieldLink RX6 42 "ParityGameModel" "measure" "[I", Cond.fieldLink RX6 75 "ParityGameModel" "top" "I", Cond.methodLink RX6 82 yX6_weighs, Cond.instanceMethod yX6_weighs, Cond.selects RX6 yX6_weighs yX6_weighs, Cond.code yX6_weighs cX6_weighs 5 none, Cond.fieldLink RX6 39 "ParityGameModel" "weight" "[I", Cond.methodLink RX6 85 yX6_lifted, Cond.instanceMethod yX6_lifted]
def wsX6_wonBy_r2 : List Cond := [Cond.selects RX6 yX6_lifted yX6_lifted, Cond.code yX6_lifted cX6_lifted 6 (some .int), Cond.methodLink RX6 78 yX6_over, Cond.instanceMethod yX6_over, Cond.selects RX6 yX6_over yX6_over, Cond.code yX6_over cX6_over 4 (some .int), Cond.methodLink RX6 99 yX6_all, Cond.instanceMethod yX6_all, Cond.selects RX6 yX6_all yX6_all, Cond.code yX6_all cX6_all 1 (some .int)]
def wsX6_wonBy : List Cond := .code yX6_wonBy cX6_wonBy 3 (some .int) :: ((wsX6_wonBy_r1 ++ wsX6_wonBy_r2) ++ wsX60)
def wsX6_only : List Cond := .code yX6_only cX6_only 4 none :: ([.fieldLink RX6 13 "ParityGameModel" "now" "[I", .fieldLink RX6 36 "ParityGameModel" "live" "[I"] ++ wsX60)
def wsX6_firstMove : List Cond := .code yX6_firstMove cX6_firstMove 3 (some .int) :: ([.fieldLink RX6 13 "ParityGameModel" "now" "[I"] ++ wsX60)
def wsX6_plansFor_r1 : List Cond := [Cond.fieldLink RX6 13 "ParityGameModel" "now" "[I", Cond.fieldLink RX6 45 "ParityGameModel" "planned" "[I", Cond.methodLink RX6 89 yX6_looksAtAll, Cond.instanceMethod yX6_looksAtAll, Cond.selects RX6 yX6_looksAtAll yX6_looksAtAll, Cond.initialized RX6, Cond.code yX6_looksAtAll cX6_looksAtAll 2 none, Cond.fieldLink RX6 36 "ParityGameModel" "live" "[I", Cond.methodLink RX6 102 yX6_has, Cond.static yX6_has, Cond.code yX6_has cX6_has 2 (some .boolean), Cond.methodLink RX6 106 yX6_only, Cond.instanceMethod yX6_only, Cond.selects RX6 yX6_only yX6_only, Cond.code yX6_only cX6_only 4 none, Cond.methodLink RX6 92 yX6_solved, Cond.instanceMethod yX6_solved, Cond.selects RX6 yX6_solved yX6_solved, Cond.code yX6_solved cX6_solved 4 (some .int), Cond.fieldLink RX6 42 "ParityGameModel" "measure" "[I", Cond.fieldLink RX6 75 "ParityGameModel" "top" "I", Cond.methodLink RX6 82 yX6_weighs, Cond.instanceMethod yX6_weighs, Cond.selects RX6 yX6_weighs yX6_weighs]
def wsX6_plansFor_r2 : List Cond := [Cond.code yX6_weighs cX6_weighs 5 none, Cond.fieldLink RX6 39 "ParityGameModel" "weight" "[I", Cond.methodLink RX6 85 yX6_lifted, Cond.instanceMethod yX6_lifted, Cond.selects RX6 yX6_lifted yX6_lifted, Cond.code yX6_lifted cX6_lifted 6 (some .int), Cond.methodLink RX6 78 yX6_over, Cond.instanceMethod yX6_over, Cond.selects RX6 yX6_over yX6_over, Cond.code yX6_over cX6_over 4 (some .int), Cond.methodLink RX6 99 yX6_all, Cond.instanceMethod yX6_all, Cond.selects RX6 yX6_all yX6_all, Cond.code yX6_all cX6_all 1 (some .int)]
def wsX6_plansFor : List Cond := .code yX6_plansFor cX6_plansFor 8 none :: ((wsX6_plansFor_r1 ++ wsX6_plansFor_r2) ++ wsX60)
def wsX6_plans_r1 : List Cond := [Cond.fieldLink RX6 13 "ParityGameModel" "now" "[I", Cond.fieldLink RX6 45 "ParityGameModel" "planned" "[I", Cond.methodLink RX6 96 yX6_wonByEven, Cond.instanceMethod yX6_wonByEven, Cond.selects RX6 yX6_wonByEven yX6_wonByEven, Cond.initialized RX6, Cond.code yX6_wonByEven cX6_wonByEven 1 (some .int), Cond.methodLink RX6 89 yX6_looksAtAll, Cond.instanceMethod yX6_looksAtAll, Cond.selects RX6 yX6_looksAtAll yX6_looksAtAll, Cond.code yX6_looksAtAll cX6_looksAtAll 2 none, Cond.fieldLink RX6 36 "ParityGameModel" "live" "[I", Cond.methodLink RX6 92 yX6_solved, Cond.instanceMethod yX6_solved, Cond.selects RX6 yX6_solved yX6_solved, Cond.code yX6_solved cX6_solved 4 (some .int), Cond.fieldLink RX6 42 "ParityGameModel" "measure" "[I", Cond.fieldLink RX6 75 "ParityGameModel" "top" "I", Cond.methodLink RX6 82 yX6_weighs, Cond.instanceMethod yX6_weighs, Cond.selects RX6 yX6_weighs yX6_weighs, Cond.code yX6_weighs cX6_weighs 5 none, Cond.fieldLink RX6 39 "ParityGameModel" "weight" "[I", Cond.methodLink RX6 85 yX6_lifted]
def wsX6_plans_r2 : List Cond := [Cond.instanceMethod yX6_lifted, Cond.selects RX6 yX6_lifted yX6_lifted, Cond.code yX6_lifted cX6_lifted 6 (some .int), Cond.methodLink RX6 78 yX6_over, Cond.instanceMethod yX6_over, Cond.selects RX6 yX6_over yX6_over, Cond.code yX6_over cX6_over 4 (some .int), Cond.methodLink RX6 109 yX6_firstMove, Cond.instanceMethod yX6_firstMove, Cond.selects RX6 yX6_firstMove yX6_firstMove, Cond.code yX6_firstMove cX6_firstMove 3 (some .int), Cond.methodLink RX6 112 yX6_plansFor, Cond.instanceMethod yX6_plansFor, Cond.selects RX6 yX6_plansFor yX6_plansFor, Cond.code yX6_plansFor cX6_plansFor 8 none, Cond.methodLink RX6 102 yX6_has, Cond.static yX6_has, Cond.code yX6_has cX6_has 2 (some .boolean), Cond.methodLink RX6 106 yX6_only, Cond.instanceMethod yX6_only, Cond.selects RX6 yX6_only yX6_only, Cond.code yX6_only cX6_only 4 none, Cond.methodLink RX6 99 yX6_all, Cond.instanceMethod yX6_all]
def wsX6_plans_r3 : List Cond := [Cond.selects RX6 yX6_all yX6_all, Cond.code yX6_all cX6_all 1 (some .int)]
def wsX6_plans : List Cond := .code yX6_plans cX6_plans 3 none :: ((wsX6_plans_r1 ++ (wsX6_plans_r2 ++ wsX6_plans_r3)) ++ wsX60)
def wsX6_plays : List Cond := .code yX6_plays cX6_plays 5 none :: ([.fieldLink RX6 13 "ParityGameModel" "now" "[I", .fieldLink RX6 48 "ParityGameModel" "came" "[I", .fieldLink RX6 45 "ParityGameModel" "planned" "[I", .fieldLink RX6 115 "ParityGameModel" "ahead" "I", .fieldLink RX6 118 "ParityGameModel" "round" "I", .fieldLink RX6 121 "ParityGameModel" "loudest" "I"] ++ wsX60)
def wsX6_forces : List Cond := .code yX6_forces cX6_forces 7 (some .boolean) :: ([.fieldLink RX6 13 "ParityGameModel" "now" "[I", .methodLink RX6 102 yX6_has, .static yX6_has, .initialized RX6, .code yX6_has cX6_has 2 (some .boolean)] ++ wsX60)
def wsX6_forcing : List Cond := .code yX6_forcing cX6_forcing 5 (some .int) :: ([.fieldLink RX6 13 "ParityGameModel" "now" "[I", .methodLink RX6 124 yX6_forces, .instanceMethod yX6_forces, .selects RX6 yX6_forces yX6_forces, .initialized RX6, .code yX6_forces cX6_forces 7 (some .boolean), .methodLink RX6 102 yX6_has, .static yX6_has, .code yX6_has cX6_has 2 (some .boolean)] ++ wsX60)
def wsX6_pulls : List Cond := .code yX6_pulls cX6_pulls 7 (some .int) :: ([.fieldLink RX6 13 "ParityGameModel" "now" "[I", .fieldLink RX6 51 "ParityGameModel" "rank" "[I", .methodLink RX6 102 yX6_has, .static yX6_has, .initialized RX6, .code yX6_has cX6_has 2 (some .boolean), .methodLink RX6 127 yX6_forcing, .instanceMethod yX6_forcing, .selects RX6 yX6_forcing yX6_forcing, .code yX6_forcing cX6_forcing 5 (some .int), .methodLink RX6 124 yX6_forces, .instanceMethod yX6_forces, .selects RX6 yX6_forces yX6_forces, .code yX6_forces cX6_forces 7 (some .boolean)] ++ wsX60)
def wsX6_leaves : List Cond := .code yX6_leaves cX6_leaves 7 (some .boolean) :: ([.fieldLink RX6 13 "ParityGameModel" "now" "[I", .methodLink RX6 102 yX6_has, .static yX6_has, .initialized RX6, .code yX6_has cX6_has 2 (some .boolean)] ++ wsX60)
def wsX6_stays : List Cond := .code yX6_stays cX6_stays 6 (some .int) :: ([.fieldLink RX6 13 "ParityGameModel" "now" "[I", .methodLink RX6 102 yX6_has, .static yX6_has, .initialized RX6, .code yX6_has cX6_has 2 (some .boolean), .methodLink RX6 130 yX6_leaves, .instanceMethod yX6_leaves, .selects RX6 yX6_leaves yX6_leaves, .code yX6_leaves cX6_leaves 7 (some .boolean)] ++ wsX60)
def wsX6_comesBack : List Cond := .code yX6_comesBack cX6_comesBack 5 (some .int) :: ([.methodLink RX6 99 yX6_all, .instanceMethod yX6_all, .selects RX6 yX6_all yX6_all, .initialized RX6, .code yX6_all cX6_all 1 (some .int), .fieldLink RX6 13 "ParityGameModel" "now" "[I", .methodLink RX6 127 yX6_forcing, .instanceMethod yX6_forcing, .selects RX6 yX6_forcing yX6_forcing, .code yX6_forcing cX6_forcing 5 (some .int), .methodLink RX6 124 yX6_forces, .instanceMethod yX6_forces, .selects RX6 yX6_forces yX6_forces, .code yX6_forces cX6_forces 7 (some .boolean), .methodLink RX6 102 yX6_has, .static yX6_has, .code yX6_has cX6_has 2 (some .boolean), .methodLink RX6 133 yX6_pulls, .instanceMethod yX6_pulls, .selects RX6 yX6_pulls yX6_pulls, .code yX6_pulls cX6_pulls 7 (some .int), .fieldLink RX6 51 "ParityGameModel" "rank" "[I"] ++ wsX60)
def wsX6_remembers : List Cond := .code yX6_remembers cX6_remembers 2 none :: ([.fieldLink RX6 136 "ParityGameModel" "oldMany" "I", .fieldLink RX6 19 "ParityGameModel" "old" "[I", .fieldLink RX6 13 "ParityGameModel" "now" "[I"] ++ wsX60)
def wsX6_putsAside : List Cond := .code yX6_putsAside cX6_putsAside 2 none :: ([.fieldLink RX6 16 "ParityGameModel" "aside" "[I", .fieldLink RX6 13 "ParityGameModel" "now" "[I"] ++ wsX60)
def wsX6_putsBack : List Cond := .code yX6_putsBack cX6_putsBack 2 none :: ([.fieldLink RX6 13 "ParityGameModel" "now" "[I", .fieldLink RX6 16 "ParityGameModel" "aside" "[I"] ++ wsX60)
def wsX6_isLetter : List Cond := .code yX6_isLetter cX6_isLetter 1 (some .boolean) :: ([])
def wsX6_isDigit : List Cond := .code yX6_isDigit cX6_isDigit 1 (some .boolean) :: ([])
def wsX6_next : List Cond := .code yX6_next cX6_next 3 none :: ([.fieldLink RX6 139 "ParityGameModel" "kind" "I", .fieldLink RX6 142 "ParityGameModel" "to" "I", .fieldLink RX6 145 "ParityGameModel" "from" "I", .fieldLink RX6 148 "ParityGameModel" "textEnd" "I", .fieldLink RX6 25 "ParityGameModel" "input" "[B", .fieldLink RX6 158 "ParityGameModel" "value" "I", .methodLink RX6 151 yX6_isLetter, .static yX6_isLetter, .initialized RX6, .code yX6_isLetter cX6_isLetter 1 (some .boolean), .methodLink RX6 155 yX6_isDigit, .static yX6_isDigit, .code yX6_isDigit cX6_isDigit 1 (some .boolean)] ++ wsX60)
def wsX6_errs : List Cond := .code yX6_errs cX6_errs 2 none :: ([.fieldLink RX6 161 "ParityGameModel" "fault" "I", .fieldLink RX6 145 "ParityGameModel" "from" "I", .fieldLink RX6 164 "ParityGameModel" "faultAt" "I"] ++ wsX60)
def wsX6_isKey : List Cond := .code yX6_isKey cX6_isKey 4 (some .boolean) :: ([.fieldLink RX6 139 "ParityGameModel" "kind" "I", .fieldLink RX6 142 "ParityGameModel" "to" "I", .fieldLink RX6 145 "ParityGameModel" "from" "I", .fieldLink RX6 25 "ParityGameModel" "input" "[B", .fieldLink RX6 7 "ParityGameModel" "keys" "[I"] ++ wsX60)
def wsX6_readsPlaces_r1 : List Cond := [Cond.fieldLink RX6 161 "ParityGameModel" "fault" "I", Cond.fieldLink RX6 139 "ParityGameModel" "kind" "I", Cond.fieldLink RX6 158 "ParityGameModel" "value" "I", Cond.fieldLink RX6 13 "ParityGameModel" "now" "[I", Cond.methodLink RX6 167 yX6_next, Cond.instanceMethod yX6_next, Cond.selects RX6 yX6_next yX6_next, Cond.initialized RX6, Cond.code yX6_next cX6_next 3 none, Cond.fieldLink RX6 142 "ParityGameModel" "to" "I", Cond.fieldLink RX6 145 "ParityGameModel" "from" "I", Cond.fieldLink RX6 148 "ParityGameModel" "textEnd" "I", Cond.fieldLink RX6 25 "ParityGameModel" "input" "[B", Cond.methodLink RX6 151 yX6_isLetter, Cond.static yX6_isLetter, Cond.code yX6_isLetter cX6_isLetter 1 (some .boolean), Cond.methodLink RX6 155 yX6_isDigit, Cond.static yX6_isDigit, Cond.code yX6_isDigit cX6_isDigit 1 (some .boolean), Cond.methodLink RX6 170 yX6_errs, Cond.instanceMethod yX6_errs, Cond.selects RX6 yX6_errs yX6_errs, Cond.code yX6_errs cX6_errs 2 none, Cond.fieldLink RX6 164 "ParityGameModel" "faultAt" "I"]
def wsX6_readsPlaces_r2 : List Cond := [Cond.methodLink RX6 54 yX6_joins, Cond.instanceMethod yX6_joins, Cond.selects RX6 yX6_joins yX6_joins, Cond.code yX6_joins cX6_joins 3 none]
def wsX6_readsPlaces : List Cond := .code yX6_readsPlaces cX6_readsPlaces 3 none :: ((wsX6_readsPlaces_r1 ++ wsX6_readsPlaces_r2) ++ wsX60)
def wsX6_thePlace : List Cond := .code yX6_thePlace cX6_thePlace 1 (some .int) :: ([.fieldLink RX6 161 "ParityGameModel" "fault" "I", .fieldLink RX6 139 "ParityGameModel" "kind" "I", .fieldLink RX6 158 "ParityGameModel" "value" "I", .methodLink RX6 170 yX6_errs, .instanceMethod yX6_errs, .selects RX6 yX6_errs yX6_errs, .initialized RX6, .code yX6_errs cX6_errs 2 none, .fieldLink RX6 145 "ParityGameModel" "from" "I", .fieldLink RX6 164 "ParityGameModel" "faultAt" "I", .methodLink RX6 173 yX6_isPlace, .instanceMethod yX6_isPlace, .selects RX6 yX6_isPlace yX6_isPlace, .code yX6_isPlace cX6_isPlace 2 (some .boolean), .fieldLink RX6 13 "ParityGameModel" "now" "[I", .methodLink RX6 68 yX6_in, .static yX6_in, .code yX6_in cX6_in 3 (some .boolean)] ++ wsX60)
def wsX6_readsMoves_r1 : List Cond := [Cond.fieldLink RX6 161 "ParityGameModel" "fault" "I", Cond.fieldLink RX6 13 "ParityGameModel" "now" "[I", Cond.fieldLink RX6 139 "ParityGameModel" "kind" "I", Cond.methodLink RX6 167 yX6_next, Cond.instanceMethod yX6_next, Cond.selects RX6 yX6_next yX6_next, Cond.initialized RX6, Cond.code yX6_next cX6_next 3 none, Cond.fieldLink RX6 142 "ParityGameModel" "to" "I", Cond.fieldLink RX6 145 "ParityGameModel" "from" "I", Cond.fieldLink RX6 148 "ParityGameModel" "textEnd" "I", Cond.fieldLink RX6 25 "ParityGameModel" "input" "[B", Cond.fieldLink RX6 158 "ParityGameModel" "value" "I", Cond.methodLink RX6 151 yX6_isLetter, Cond.static yX6_isLetter, Cond.code yX6_isLetter cX6_isLetter 1 (some .boolean), Cond.methodLink RX6 155 yX6_isDigit, Cond.static yX6_isDigit, Cond.code yX6_isDigit cX6_isDigit 1 (some .boolean), Cond.methodLink RX6 176 yX6_thePlace, Cond.instanceMethod yX6_thePlace, Cond.selects RX6 yX6_thePlace yX6_thePlace, Cond.code yX6_thePlace cX6_thePlace 1 (some .int), Cond.methodLink RX6 170 yX6_errs]
def wsX6_readsMoves_r2 : List Cond := [Cond.instanceMethod yX6_errs, Cond.selects RX6 yX6_errs yX6_errs, Cond.code yX6_errs cX6_errs 2 none, Cond.fieldLink RX6 164 "ParityGameModel" "faultAt" "I", Cond.methodLink RX6 173 yX6_isPlace, Cond.instanceMethod yX6_isPlace, Cond.selects RX6 yX6_isPlace yX6_isPlace, Cond.code yX6_isPlace cX6_isPlace 2 (some .boolean), Cond.methodLink RX6 68 yX6_in, Cond.static yX6_in, Cond.code yX6_in cX6_in 3 (some .boolean), Cond.methodLink RX6 179 yX6_between, Cond.instanceMethod yX6_between, Cond.selects RX6 yX6_between yX6_between, Cond.code yX6_between cX6_between 4 (some .int), Cond.methodLink RX6 58 yX6_leads, Cond.instanceMethod yX6_leads, Cond.selects RX6 yX6_leads yX6_leads, Cond.code yX6_leads cX6_leads 3 none]
def wsX6_readsMoves : List Cond := .code yX6_readsMoves cX6_readsMoves 4 none :: ((wsX6_readsMoves_r1 ++ wsX6_readsMoves_r2) ++ wsX60)
def wsX6_readsLine_r1 : List Cond := [Cond.fieldLink RX6 13 "ParityGameModel" "now" "[I", Cond.fieldLink RX6 161 "ParityGameModel" "fault" "I", Cond.methodLink RX6 182 yX6_isKey, Cond.instanceMethod yX6_isKey, Cond.selects RX6 yX6_isKey yX6_isKey, Cond.initialized RX6, Cond.code yX6_isKey cX6_isKey 4 (some .boolean), Cond.fieldLink RX6 139 "ParityGameModel" "kind" "I", Cond.fieldLink RX6 142 "ParityGameModel" "to" "I", Cond.fieldLink RX6 145 "ParityGameModel" "from" "I", Cond.fieldLink RX6 25 "ParityGameModel" "input" "[B", Cond.fieldLink RX6 7 "ParityGameModel" "keys" "[I", Cond.methodLink RX6 185 yX6_readsPlaces, Cond.instanceMethod yX6_readsPlaces, Cond.selects RX6 yX6_readsPlaces yX6_readsPlaces, Cond.code yX6_readsPlaces cX6_readsPlaces 3 none, Cond.fieldLink RX6 158 "ParityGameModel" "value" "I", Cond.methodLink RX6 167 yX6_next, Cond.instanceMethod yX6_next, Cond.selects RX6 yX6_next yX6_next, Cond.code yX6_next cX6_next 3 none, Cond.fieldLink RX6 148 "ParityGameModel" "textEnd" "I", Cond.methodLink RX6 151 yX6_isLetter, Cond.static yX6_isLetter]
def wsX6_readsLine_r2 : List Cond := [Cond.code yX6_isLetter cX6_isLetter 1 (some .boolean), Cond.methodLink RX6 155 yX6_isDigit, Cond.static yX6_isDigit, Cond.code yX6_isDigit cX6_isDigit 1 (some .boolean), Cond.methodLink RX6 170 yX6_errs, Cond.instanceMethod yX6_errs, Cond.selects RX6 yX6_errs yX6_errs, Cond.code yX6_errs cX6_errs 2 none, Cond.fieldLink RX6 164 "ParityGameModel" "faultAt" "I", Cond.methodLink RX6 54 yX6_joins, Cond.instanceMethod yX6_joins, Cond.selects RX6 yX6_joins yX6_joins, Cond.code yX6_joins cX6_joins 3 none, Cond.methodLink RX6 188 yX6_readsMoves, Cond.instanceMethod yX6_readsMoves, Cond.selects RX6 yX6_readsMoves yX6_readsMoves, Cond.code yX6_readsMoves cX6_readsMoves 4 none, Cond.methodLink RX6 176 yX6_thePlace, Cond.instanceMethod yX6_thePlace, Cond.selects RX6 yX6_thePlace yX6_thePlace, Cond.code yX6_thePlace cX6_thePlace 1 (some .int), Cond.methodLink RX6 173 yX6_isPlace, Cond.instanceMethod yX6_isPlace, Cond.selects RX6 yX6_isPlace yX6_isPlace]
def wsX6_readsLine_r3 : List Cond := [Cond.code yX6_isPlace cX6_isPlace 2 (some .boolean), Cond.methodLink RX6 68 yX6_in, Cond.static yX6_in, Cond.code yX6_in cX6_in 3 (some .boolean), Cond.methodLink RX6 179 yX6_between, Cond.instanceMethod yX6_between, Cond.selects RX6 yX6_between yX6_between, Cond.code yX6_between cX6_between 4 (some .int), Cond.methodLink RX6 58 yX6_leads, Cond.instanceMethod yX6_leads, Cond.selects RX6 yX6_leads yX6_leads, Cond.code yX6_leads cX6_leads 3 none]
def wsX6_readsLine : List Cond := .code yX6_readsLine cX6_readsLine 1 none :: ((wsX6_readsLine_r1 ++ (wsX6_readsLine_r2 ++ wsX6_readsLine_r3)) ++ wsX60)
def wsX6_readsText_r1 : List Cond := [Cond.fieldLink RX6 13 "ParityGameModel" "now" "[I", Cond.fieldLink RX6 148 "ParityGameModel" "textEnd" "I", Cond.fieldLink RX6 161 "ParityGameModel" "fault" "I", Cond.fieldLink RX6 139 "ParityGameModel" "kind" "I", Cond.fieldLink RX6 142 "ParityGameModel" "to" "I", Cond.methodLink RX6 167 yX6_next, Cond.instanceMethod yX6_next, Cond.selects RX6 yX6_next yX6_next, Cond.initialized RX6, Cond.code yX6_next cX6_next 3 none, Cond.fieldLink RX6 145 "ParityGameModel" "from" "I", Cond.fieldLink RX6 25 "ParityGameModel" "input" "[B", Cond.fieldLink RX6 158 "ParityGameModel" "value" "I", Cond.methodLink RX6 151 yX6_isLetter, Cond.static yX6_isLetter, Cond.code yX6_isLetter cX6_isLetter 1 (some .boolean), Cond.methodLink RX6 155 yX6_isDigit, Cond.static yX6_isDigit, Cond.code yX6_isDigit cX6_isDigit 1 (some .boolean), Cond.methodLink RX6 182 yX6_isKey, Cond.instanceMethod yX6_isKey, Cond.selects RX6 yX6_isKey yX6_isKey, Cond.code yX6_isKey cX6_isKey 4 (some .boolean), Cond.fieldLink RX6 7 "ParityGameModel" "keys" "[I"]
def wsX6_readsText_r2 : List Cond := [Cond.methodLink RX6 170 yX6_errs, Cond.instanceMethod yX6_errs, Cond.selects RX6 yX6_errs yX6_errs, Cond.code yX6_errs cX6_errs 2 none, Cond.fieldLink RX6 164 "ParityGameModel" "faultAt" "I", Cond.methodLink RX6 191 yX6_readsLine, Cond.instanceMethod yX6_readsLine, Cond.selects RX6 yX6_readsLine yX6_readsLine, Cond.code yX6_readsLine cX6_readsLine 1 none, Cond.methodLink RX6 185 yX6_readsPlaces, Cond.instanceMethod yX6_readsPlaces, Cond.selects RX6 yX6_readsPlaces yX6_readsPlaces, Cond.code yX6_readsPlaces cX6_readsPlaces 3 none, Cond.methodLink RX6 54 yX6_joins, Cond.instanceMethod yX6_joins, Cond.selects RX6 yX6_joins yX6_joins, Cond.code yX6_joins cX6_joins 3 none, Cond.methodLink RX6 188 yX6_readsMoves, Cond.instanceMethod yX6_readsMoves, Cond.selects RX6 yX6_readsMoves yX6_readsMoves, Cond.code yX6_readsMoves cX6_readsMoves 4 none, Cond.methodLink RX6 176 yX6_thePlace, Cond.instanceMethod yX6_thePlace, Cond.selects RX6 yX6_thePlace yX6_thePlace]
def wsX6_readsText_r3 : List Cond := [Cond.code yX6_thePlace cX6_thePlace 1 (some .int), Cond.methodLink RX6 173 yX6_isPlace, Cond.instanceMethod yX6_isPlace, Cond.selects RX6 yX6_isPlace yX6_isPlace, Cond.code yX6_isPlace cX6_isPlace 2 (some .boolean), Cond.methodLink RX6 68 yX6_in, Cond.static yX6_in, Cond.code yX6_in cX6_in 3 (some .boolean), Cond.methodLink RX6 179 yX6_between, Cond.instanceMethod yX6_between, Cond.selects RX6 yX6_between yX6_between, Cond.code yX6_between cX6_between 4 (some .int), Cond.methodLink RX6 58 yX6_leads, Cond.instanceMethod yX6_leads, Cond.selects RX6 yX6_leads yX6_leads, Cond.code yX6_leads cX6_leads 3 none, Cond.methodLink RX6 61 yX6_lays, Cond.instanceMethod yX6_lays, Cond.selects RX6 yX6_lays yX6_lays, Cond.code yX6_lays cX6_lays 3 none, Cond.methodLink RX6 72 yX6_hears, Cond.instanceMethod yX6_hears, Cond.selects RX6 yX6_hears yX6_hears, Cond.code yX6_hears cX6_hears 2 none]
def wsX6_readsText : List Cond := .code yX6_readsText cX6_readsText 3 none :: ((wsX6_readsText_r1 ++ (wsX6_readsText_r2 ++ wsX6_readsText_r3)) ++ wsX60)
def wsX6_feeds : List Cond := .code yX6_feeds cX6_feeds 2 none :: ([.fieldLink RX6 25 "ParityGameModel" "input" "[B", .fieldLink RX6 194 "ParityGameModel" "inputMany" "I"] ++ wsX60)
def wsX6_feed : List Cond := .code yX6_feed cX6_feed 6 (some .int) :: ([.fieldLink RX6 194 "ParityGameModel" "inputMany" "I", .methodLink RX6 197 yX6_refuse, .instanceMethod yX6_refuse, .selects RX6 yX6_refuse yX6_refuse, .initialized RX6, .code yX6_refuse cX6_refuse 2 (some .int), .fieldLink RX6 65 "ParityGameModel" "thrown" "I", .methodLink RX6 200 yX6_feeds, .instanceMethod yX6_feeds, .selects RX6 yX6_feeds yX6_feeds, .code yX6_feeds cX6_feeds 2 none, .fieldLink RX6 25 "ParityGameModel" "input" "[B", .methodLink RX6 203 yX6_told, .instanceMethod yX6_told, .selects RX6 yX6_told yX6_told, .code yX6_told cX6_told 2 (some .int)] ++ wsX60)
def wsX6_load_r1 : List Cond := [Cond.fieldLink RX6 194 "ParityGameModel" "inputMany" "I", Cond.fieldLink RX6 161 "ParityGameModel" "fault" "I", Cond.fieldLink RX6 212 "ParityGameModel" "errorCode" "I", Cond.fieldLink RX6 164 "ParityGameModel" "faultAt" "I", Cond.fieldLink RX6 32 "ParityGameModel" "errorPosition" "I", Cond.fieldLink RX6 136 "ParityGameModel" "oldMany" "I", Cond.fieldLink RX6 218 "ParityGameModel" "savedSet" "I", Cond.fieldLink RX6 13 "ParityGameModel" "now" "[I", Cond.methodLink RX6 68 yX6_in, Cond.static yX6_in, Cond.initialized RX6, Cond.code yX6_in cX6_in 3 (some .boolean), Cond.methodLink RX6 197 yX6_refuse, Cond.instanceMethod yX6_refuse, Cond.selects RX6 yX6_refuse yX6_refuse, Cond.code yX6_refuse cX6_refuse 2 (some .int), Cond.fieldLink RX6 65 "ParityGameModel" "thrown" "I", Cond.methodLink RX6 206 yX6_putsAside, Cond.instanceMethod yX6_putsAside, Cond.selects RX6 yX6_putsAside yX6_putsAside, Cond.code yX6_putsAside cX6_putsAside 2 none, Cond.fieldLink RX6 16 "ParityGameModel" "aside" "[I", Cond.methodLink RX6 209 yX6_readsText, Cond.instanceMethod yX6_readsText]
def wsX6_load_r2 : List Cond := [Cond.selects RX6 yX6_readsText yX6_readsText, Cond.code yX6_readsText cX6_readsText 3 none, Cond.fieldLink RX6 148 "ParityGameModel" "textEnd" "I", Cond.fieldLink RX6 139 "ParityGameModel" "kind" "I", Cond.fieldLink RX6 142 "ParityGameModel" "to" "I", Cond.methodLink RX6 167 yX6_next, Cond.instanceMethod yX6_next, Cond.selects RX6 yX6_next yX6_next, Cond.code yX6_next cX6_next 3 none, Cond.fieldLink RX6 145 "ParityGameModel" "from" "I", Cond.fieldLink RX6 25 "ParityGameModel" "input" "[B", Cond.fieldLink RX6 158 "ParityGameModel" "value" "I", Cond.methodLink RX6 151 yX6_isLetter, Cond.static yX6_isLetter, Cond.code yX6_isLetter cX6_isLetter 1 (some .boolean), Cond.methodLink RX6 155 yX6_isDigit, Cond.static yX6_isDigit, Cond.code yX6_isDigit cX6_isDigit 1 (some .boolean), Cond.methodLink RX6 182 yX6_isKey, Cond.instanceMethod yX6_isKey, Cond.selects RX6 yX6_isKey yX6_isKey, Cond.code yX6_isKey cX6_isKey 4 (some .boolean), Cond.fieldLink RX6 7 "ParityGameModel" "keys" "[I", Cond.methodLink RX6 170 yX6_errs]
def wsX6_load_r3 : List Cond := [Cond.instanceMethod yX6_errs, Cond.selects RX6 yX6_errs yX6_errs, Cond.code yX6_errs cX6_errs 2 none, Cond.methodLink RX6 191 yX6_readsLine, Cond.instanceMethod yX6_readsLine, Cond.selects RX6 yX6_readsLine yX6_readsLine, Cond.code yX6_readsLine cX6_readsLine 1 none, Cond.methodLink RX6 185 yX6_readsPlaces, Cond.instanceMethod yX6_readsPlaces, Cond.selects RX6 yX6_readsPlaces yX6_readsPlaces, Cond.code yX6_readsPlaces cX6_readsPlaces 3 none, Cond.methodLink RX6 54 yX6_joins, Cond.instanceMethod yX6_joins, Cond.selects RX6 yX6_joins yX6_joins, Cond.code yX6_joins cX6_joins 3 none, Cond.methodLink RX6 188 yX6_readsMoves, Cond.instanceMethod yX6_readsMoves, Cond.selects RX6 yX6_readsMoves yX6_readsMoves, Cond.code yX6_readsMoves cX6_readsMoves 4 none, Cond.methodLink RX6 176 yX6_thePlace, Cond.instanceMethod yX6_thePlace, Cond.selects RX6 yX6_thePlace yX6_thePlace, Cond.code yX6_thePlace cX6_thePlace 1 (some .int), Cond.methodLink RX6 173 yX6_isPlace]
def wsX6_load_r4 : List Cond := [Cond.instanceMethod yX6_isPlace, Cond.selects RX6 yX6_isPlace yX6_isPlace, Cond.code yX6_isPlace cX6_isPlace 2 (some .boolean), Cond.methodLink RX6 179 yX6_between, Cond.instanceMethod yX6_between, Cond.selects RX6 yX6_between yX6_between, Cond.code yX6_between cX6_between 4 (some .int), Cond.methodLink RX6 58 yX6_leads, Cond.instanceMethod yX6_leads, Cond.selects RX6 yX6_leads yX6_leads, Cond.code yX6_leads cX6_leads 3 none, Cond.methodLink RX6 61 yX6_lays, Cond.instanceMethod yX6_lays, Cond.selects RX6 yX6_lays yX6_lays, Cond.code yX6_lays cX6_lays 3 none, Cond.methodLink RX6 72 yX6_hears, Cond.instanceMethod yX6_hears, Cond.selects RX6 yX6_hears yX6_hears, Cond.code yX6_hears cX6_hears 2 none, Cond.methodLink RX6 215 yX6_putsBack, Cond.instanceMethod yX6_putsBack, Cond.selects RX6 yX6_putsBack yX6_putsBack, Cond.code yX6_putsBack cX6_putsBack 2 none, Cond.methodLink RX6 203 yX6_told]
def wsX6_load_r5 : List Cond := [Cond.instanceMethod yX6_told, Cond.selects RX6 yX6_told yX6_told, Cond.code yX6_told cX6_told 2 (some .int)]
def wsX6_load : List Cond := .code yX6_load cX6_load 2 (some .int) :: ((wsX6_load_r1 ++ (wsX6_load_r2 ++ (wsX6_load_r3 ++ (wsX6_load_r4 ++ wsX6_load_r5)))) ++ wsX60)
def wsX6_errorCode : List Cond := .code yX6_errorCode cX6_errorCode 1 (some .int) :: ([.fieldLink RX6 212 "ParityGameModel" "errorCode" "I", .methodLink RX6 203 yX6_told, .instanceMethod yX6_told, .selects RX6 yX6_told yX6_told, .initialized RX6, .code yX6_told cX6_told 2 (some .int), .fieldLink RX6 65 "ParityGameModel" "thrown" "I"] ++ wsX60)
def wsX6_errorPosition : List Cond := .code yX6_errorPosition cX6_errorPosition 1 (some .int) :: ([.fieldLink RX6 32 "ParityGameModel" "errorPosition" "I", .methodLink RX6 203 yX6_told, .instanceMethod yX6_told, .selects RX6 yX6_told yX6_told, .initialized RX6, .code yX6_told cX6_told 2 (some .int), .fieldLink RX6 65 "ParityGameModel" "thrown" "I"] ++ wsX60)
def wsX6_movesAt : List Cond := .code yX6_movesAt cX6_movesAt 5 (some .int) :: ([.fieldLink RX6 13 "ParityGameModel" "now" "[I"] ++ wsX60)
def wsX6_greatestCall : List Cond := .code yX6_greatestCall cX6_greatestCall 3 (some .int) :: ([.fieldLink RX6 13 "ParityGameModel" "now" "[I"] ++ wsX60)
def wsX6_size : List Cond := .code yX6_size cX6_size 5 (some .int) :: ([.fieldLink RX6 13 "ParityGameModel" "now" "[I", .methodLink RX6 68 yX6_in, .static yX6_in, .initialized RX6, .code yX6_in cX6_in 3 (some .boolean), .methodLink RX6 197 yX6_refuse, .instanceMethod yX6_refuse, .selects RX6 yX6_refuse yX6_refuse, .code yX6_refuse cX6_refuse 2 (some .int), .fieldLink RX6 65 "ParityGameModel" "thrown" "I", .methodLink RX6 221 yX6_greatestCall, .instanceMethod yX6_greatestCall, .selects RX6 yX6_greatestCall yX6_greatestCall, .code yX6_greatestCall cX6_greatestCall 3 (some .int), .methodLink RX6 203 yX6_told, .instanceMethod yX6_told, .selects RX6 yX6_told yX6_told, .code yX6_told cX6_told 2 (some .int), .methodLink RX6 224 yX6_movesAt, .instanceMethod yX6_movesAt, .selects RX6 yX6_movesAt yX6_movesAt, .code yX6_movesAt cX6_movesAt 5 (some .int)] ++ wsX60)
def wsX6_winner_r1 : List Cond := [Cond.methodLink RX6 96 yX6_wonByEven, Cond.instanceMethod yX6_wonByEven, Cond.selects RX6 yX6_wonByEven yX6_wonByEven, Cond.initialized RX6, Cond.code yX6_wonByEven cX6_wonByEven 1 (some .int), Cond.methodLink RX6 89 yX6_looksAtAll, Cond.instanceMethod yX6_looksAtAll, Cond.selects RX6 yX6_looksAtAll yX6_looksAtAll, Cond.code yX6_looksAtAll cX6_looksAtAll 2 none, Cond.fieldLink RX6 13 "ParityGameModel" "now" "[I", Cond.fieldLink RX6 36 "ParityGameModel" "live" "[I", Cond.methodLink RX6 92 yX6_solved, Cond.instanceMethod yX6_solved, Cond.selects RX6 yX6_solved yX6_solved, Cond.code yX6_solved cX6_solved 4 (some .int), Cond.fieldLink RX6 42 "ParityGameModel" "measure" "[I", Cond.fieldLink RX6 75 "ParityGameModel" "top" "I", Cond.methodLink RX6 82 yX6_weighs, Cond.instanceMethod yX6_weighs, Cond.selects RX6 yX6_weighs yX6_weighs, Cond.code yX6_weighs cX6_weighs 5 none, Cond.fieldLink RX6 39 "ParityGameModel" "weight" "[I", Cond.methodLink RX6 85 yX6_lifted, Cond.instanceMethod yX6_lifted]
def wsX6_winner_r2 : List Cond := [Cond.selects RX6 yX6_lifted yX6_lifted, Cond.code yX6_lifted cX6_lifted 6 (some .int), Cond.methodLink RX6 78 yX6_over, Cond.instanceMethod yX6_over, Cond.selects RX6 yX6_over yX6_over, Cond.code yX6_over cX6_over 4 (some .int), Cond.methodLink RX6 102 yX6_has, Cond.static yX6_has, Cond.code yX6_has cX6_has 2 (some .boolean)]
def wsX6_winner : List Cond := .code yX6_winner cX6_winner 2 (some .int) :: ((wsX6_winner_r1 ++ wsX6_winner_r2) ++ wsX60)
def wsX6_place_r1 : List Cond := [Cond.fieldLink RX6 13 "ParityGameModel" "now" "[I", Cond.methodLink RX6 173 yX6_isPlace, Cond.instanceMethod yX6_isPlace, Cond.selects RX6 yX6_isPlace yX6_isPlace, Cond.initialized RX6, Cond.code yX6_isPlace cX6_isPlace 2 (some .boolean), Cond.methodLink RX6 68 yX6_in, Cond.static yX6_in, Cond.code yX6_in cX6_in 3 (some .boolean), Cond.methodLink RX6 197 yX6_refuse, Cond.instanceMethod yX6_refuse, Cond.selects RX6 yX6_refuse yX6_refuse, Cond.code yX6_refuse cX6_refuse 2 (some .int), Cond.fieldLink RX6 65 "ParityGameModel" "thrown" "I", Cond.methodLink RX6 203 yX6_told, Cond.instanceMethod yX6_told, Cond.selects RX6 yX6_told yX6_told, Cond.code yX6_told cX6_told 2 (some .int), Cond.methodLink RX6 227 yX6_winner, Cond.instanceMethod yX6_winner, Cond.selects RX6 yX6_winner yX6_winner, Cond.code yX6_winner cX6_winner 2 (some .int), Cond.methodLink RX6 96 yX6_wonByEven, Cond.instanceMethod yX6_wonByEven]
def wsX6_place_r2 : List Cond := [Cond.selects RX6 yX6_wonByEven yX6_wonByEven, Cond.code yX6_wonByEven cX6_wonByEven 1 (some .int), Cond.methodLink RX6 89 yX6_looksAtAll, Cond.instanceMethod yX6_looksAtAll, Cond.selects RX6 yX6_looksAtAll yX6_looksAtAll, Cond.code yX6_looksAtAll cX6_looksAtAll 2 none, Cond.fieldLink RX6 36 "ParityGameModel" "live" "[I", Cond.methodLink RX6 92 yX6_solved, Cond.instanceMethod yX6_solved, Cond.selects RX6 yX6_solved yX6_solved, Cond.code yX6_solved cX6_solved 4 (some .int), Cond.fieldLink RX6 42 "ParityGameModel" "measure" "[I", Cond.fieldLink RX6 75 "ParityGameModel" "top" "I", Cond.methodLink RX6 82 yX6_weighs, Cond.instanceMethod yX6_weighs, Cond.selects RX6 yX6_weighs yX6_weighs, Cond.code yX6_weighs cX6_weighs 5 none, Cond.fieldLink RX6 39 "ParityGameModel" "weight" "[I", Cond.methodLink RX6 85 yX6_lifted, Cond.instanceMethod yX6_lifted, Cond.selects RX6 yX6_lifted yX6_lifted, Cond.code yX6_lifted cX6_lifted 6 (some .int), Cond.methodLink RX6 78 yX6_over, Cond.instanceMethod yX6_over]
def wsX6_place_r3 : List Cond := [Cond.selects RX6 yX6_over yX6_over, Cond.code yX6_over cX6_over 4 (some .int), Cond.methodLink RX6 102 yX6_has, Cond.static yX6_has, Cond.code yX6_has cX6_has 2 (some .boolean), Cond.methodLink RX6 224 yX6_movesAt, Cond.instanceMethod yX6_movesAt, Cond.selects RX6 yX6_movesAt yX6_movesAt, Cond.code yX6_movesAt cX6_movesAt 5 (some .int)]
def wsX6_place : List Cond := .code yX6_place cX6_place 3 (some .int) :: ((wsX6_place_r1 ++ (wsX6_place_r2 ++ wsX6_place_r3)) ++ wsX60)
def wsX6_move : List Cond := .code yX6_move cX6_move 3 (some .int) :: ([.fieldLink RX6 13 "ParityGameModel" "now" "[I", .methodLink RX6 230 yX6_isMove, .instanceMethod yX6_isMove, .selects RX6 yX6_isMove yX6_isMove, .initialized RX6, .code yX6_isMove cX6_isMove 2 (some .boolean), .methodLink RX6 68 yX6_in, .static yX6_in, .code yX6_in cX6_in 3 (some .boolean), .methodLink RX6 197 yX6_refuse, .instanceMethod yX6_refuse, .selects RX6 yX6_refuse yX6_refuse, .code yX6_refuse cX6_refuse 2 (some .int), .fieldLink RX6 65 "ParityGameModel" "thrown" "I", .methodLink RX6 203 yX6_told, .instanceMethod yX6_told, .selects RX6 yX6_told yX6_told, .code yX6_told cX6_told 2 (some .int)] ++ wsX60)
def wsX6_moveBetween : List Cond := .code yX6_moveBetween cX6_moveBetween 3 (some .int) :: ([.methodLink RX6 173 yX6_isPlace, .instanceMethod yX6_isPlace, .selects RX6 yX6_isPlace yX6_isPlace, .initialized RX6, .code yX6_isPlace cX6_isPlace 2 (some .boolean), .fieldLink RX6 13 "ParityGameModel" "now" "[I", .methodLink RX6 68 yX6_in, .static yX6_in, .code yX6_in cX6_in 3 (some .boolean), .methodLink RX6 197 yX6_refuse, .instanceMethod yX6_refuse, .selects RX6 yX6_refuse yX6_refuse, .code yX6_refuse cX6_refuse 2 (some .int), .fieldLink RX6 65 "ParityGameModel" "thrown" "I", .methodLink RX6 179 yX6_between, .instanceMethod yX6_between, .selects RX6 yX6_between yX6_between, .code yX6_between cX6_between 4 (some .int), .methodLink RX6 203 yX6_told, .instanceMethod yX6_told, .selects RX6 yX6_told yX6_told, .code yX6_told cX6_told 2 (some .int)] ++ wsX60)
def wsX6_heard : List Cond := .code yX6_heard cX6_heard 2 (some .int) :: ([.fieldLink RX6 13 "ParityGameModel" "now" "[I", .methodLink RX6 68 yX6_in, .static yX6_in, .initialized RX6, .code yX6_in cX6_in 3 (some .boolean), .methodLink RX6 197 yX6_refuse, .instanceMethod yX6_refuse, .selects RX6 yX6_refuse yX6_refuse, .code yX6_refuse cX6_refuse 2 (some .int), .fieldLink RX6 65 "ParityGameModel" "thrown" "I", .methodLink RX6 203 yX6_told, .instanceMethod yX6_told, .selects RX6 yX6_told yX6_told, .code yX6_told cX6_told 2 (some .int)] ++ wsX60)
def wsX6_many : List Cond := .code yX6_many cX6_many 3 (some .int) :: ([])
def wsX6_won_r1 : List Cond := [Cond.methodLink RX6 68 yX6_in, Cond.static yX6_in, Cond.initialized RX6, Cond.code yX6_in cX6_in 3 (some .boolean), Cond.methodLink RX6 197 yX6_refuse, Cond.instanceMethod yX6_refuse, Cond.selects RX6 yX6_refuse yX6_refuse, Cond.code yX6_refuse cX6_refuse 2 (some .int), Cond.fieldLink RX6 65 "ParityGameModel" "thrown" "I", Cond.methodLink RX6 233 yX6_wonBy, Cond.instanceMethod yX6_wonBy, Cond.selects RX6 yX6_wonBy yX6_wonBy, Cond.code yX6_wonBy cX6_wonBy 3 (some .int), Cond.methodLink RX6 96 yX6_wonByEven, Cond.instanceMethod yX6_wonByEven, Cond.selects RX6 yX6_wonByEven yX6_wonByEven, Cond.code yX6_wonByEven cX6_wonByEven 1 (some .int), Cond.methodLink RX6 89 yX6_looksAtAll, Cond.instanceMethod yX6_looksAtAll, Cond.selects RX6 yX6_looksAtAll yX6_looksAtAll, Cond.code yX6_looksAtAll cX6_looksAtAll 2 none, Cond.fieldLink RX6 13 "ParityGameModel" "now" "[I", Cond.fieldLink RX6 36 "ParityGameModel" "live" "[I", Cond.methodLink RX6 92 yX6_solved]
def wsX6_won_r2 : List Cond := [Cond.instanceMethod yX6_solved, Cond.selects RX6 yX6_solved yX6_solved, Cond.code yX6_solved cX6_solved 4 (some .int), Cond.fieldLink RX6 42 "ParityGameModel" "measure" "[I", Cond.fieldLink RX6 75 "ParityGameModel" "top" "I", Cond.methodLink RX6 82 yX6_weighs, Cond.instanceMethod yX6_weighs, Cond.selects RX6 yX6_weighs yX6_weighs, Cond.code yX6_weighs cX6_weighs 5 none, Cond.fieldLink RX6 39 "ParityGameModel" "weight" "[I", Cond.methodLink RX6 85 yX6_lifted, Cond.instanceMethod yX6_lifted, Cond.selects RX6 yX6_lifted yX6_lifted, Cond.code yX6_lifted cX6_lifted 6 (some .int), Cond.methodLink RX6 78 yX6_over, Cond.instanceMethod yX6_over, Cond.selects RX6 yX6_over yX6_over, Cond.code yX6_over cX6_over 4 (some .int), Cond.methodLink RX6 99 yX6_all, Cond.instanceMethod yX6_all, Cond.selects RX6 yX6_all yX6_all, Cond.code yX6_all cX6_all 1 (some .int), Cond.methodLink RX6 203 yX6_told, Cond.instanceMethod yX6_told]
def wsX6_won_r3 : List Cond := [Cond.selects RX6 yX6_told yX6_told, Cond.code yX6_told cX6_told 2 (some .int)]
def wsX6_won : List Cond := .code yX6_won cX6_won 2 (some .int) :: ((wsX6_won_r1 ++ (wsX6_won_r2 ++ wsX6_won_r3)) ++ wsX60)
def wsX6_shareOf_r1 : List Cond := [Cond.fieldLink RX6 13 "ParityGameModel" "now" "[I", Cond.methodLink RX6 233 yX6_wonBy, Cond.instanceMethod yX6_wonBy, Cond.selects RX6 yX6_wonBy yX6_wonBy, Cond.initialized RX6, Cond.code yX6_wonBy cX6_wonBy 3 (some .int), Cond.methodLink RX6 96 yX6_wonByEven, Cond.instanceMethod yX6_wonByEven, Cond.selects RX6 yX6_wonByEven yX6_wonByEven, Cond.code yX6_wonByEven cX6_wonByEven 1 (some .int), Cond.methodLink RX6 89 yX6_looksAtAll, Cond.instanceMethod yX6_looksAtAll, Cond.selects RX6 yX6_looksAtAll yX6_looksAtAll, Cond.code yX6_looksAtAll cX6_looksAtAll 2 none, Cond.fieldLink RX6 36 "ParityGameModel" "live" "[I", Cond.methodLink RX6 92 yX6_solved, Cond.instanceMethod yX6_solved, Cond.selects RX6 yX6_solved yX6_solved, Cond.code yX6_solved cX6_solved 4 (some .int), Cond.fieldLink RX6 42 "ParityGameModel" "measure" "[I", Cond.fieldLink RX6 75 "ParityGameModel" "top" "I", Cond.methodLink RX6 82 yX6_weighs, Cond.instanceMethod yX6_weighs, Cond.selects RX6 yX6_weighs yX6_weighs]
def wsX6_shareOf_r2 : List Cond := [Cond.code yX6_weighs cX6_weighs 5 none, Cond.fieldLink RX6 39 "ParityGameModel" "weight" "[I", Cond.methodLink RX6 85 yX6_lifted, Cond.instanceMethod yX6_lifted, Cond.selects RX6 yX6_lifted yX6_lifted, Cond.code yX6_lifted cX6_lifted 6 (some .int), Cond.methodLink RX6 78 yX6_over, Cond.instanceMethod yX6_over, Cond.selects RX6 yX6_over yX6_over, Cond.code yX6_over cX6_over 4 (some .int), Cond.methodLink RX6 99 yX6_all, Cond.instanceMethod yX6_all, Cond.selects RX6 yX6_all yX6_all, Cond.code yX6_all cX6_all 1 (some .int), Cond.methodLink RX6 236 yX6_many, Cond.static yX6_many, Cond.code yX6_many cX6_many 3 (some .int)]
def wsX6_shareOf : List Cond := .code yX6_shareOf cX6_shareOf 2 (some .float) :: ((wsX6_shareOf_r1 ++ wsX6_shareOf_r2) ++ wsX60)
def wsX6_wonShare_r1 : List Cond := [Cond.fieldLink RX6 65 "ParityGameModel" "thrown" "I", Cond.methodLink RX6 68 yX6_in, Cond.static yX6_in, Cond.initialized RX6, Cond.code yX6_in cX6_in 3 (some .boolean), Cond.methodLink RX6 239 yX6_shareOf, Cond.instanceMethod yX6_shareOf, Cond.selects RX6 yX6_shareOf yX6_shareOf, Cond.code yX6_shareOf cX6_shareOf 2 (some .float), Cond.fieldLink RX6 13 "ParityGameModel" "now" "[I", Cond.methodLink RX6 233 yX6_wonBy, Cond.instanceMethod yX6_wonBy, Cond.selects RX6 yX6_wonBy yX6_wonBy, Cond.code yX6_wonBy cX6_wonBy 3 (some .int), Cond.methodLink RX6 96 yX6_wonByEven, Cond.instanceMethod yX6_wonByEven, Cond.selects RX6 yX6_wonByEven yX6_wonByEven, Cond.code yX6_wonByEven cX6_wonByEven 1 (some .int), Cond.methodLink RX6 89 yX6_looksAtAll, Cond.instanceMethod yX6_looksAtAll, Cond.selects RX6 yX6_looksAtAll yX6_looksAtAll, Cond.code yX6_looksAtAll cX6_looksAtAll 2 none, Cond.fieldLink RX6 36 "ParityGameModel" "live" "[I", Cond.methodLink RX6 92 yX6_solved]
def wsX6_wonShare_r2 : List Cond := [Cond.instanceMethod yX6_solved, Cond.selects RX6 yX6_solved yX6_solved, Cond.code yX6_solved cX6_solved 4 (some .int), Cond.fieldLink RX6 42 "ParityGameModel" "measure" "[I", Cond.fieldLink RX6 75 "ParityGameModel" "top" "I", Cond.methodLink RX6 82 yX6_weighs, Cond.instanceMethod yX6_weighs, Cond.selects RX6 yX6_weighs yX6_weighs, Cond.code yX6_weighs cX6_weighs 5 none, Cond.fieldLink RX6 39 "ParityGameModel" "weight" "[I", Cond.methodLink RX6 85 yX6_lifted, Cond.instanceMethod yX6_lifted, Cond.selects RX6 yX6_lifted yX6_lifted, Cond.code yX6_lifted cX6_lifted 6 (some .int), Cond.methodLink RX6 78 yX6_over, Cond.instanceMethod yX6_over, Cond.selects RX6 yX6_over yX6_over, Cond.code yX6_over cX6_over 4 (some .int), Cond.methodLink RX6 99 yX6_all, Cond.instanceMethod yX6_all, Cond.selects RX6 yX6_all yX6_all, Cond.code yX6_all cX6_all 1 (some .int), Cond.methodLink RX6 236 yX6_many, Cond.static yX6_many]
def wsX6_wonShare_r3 : List Cond := [Cond.code yX6_many cX6_many 3 (some .int)]
def wsX6_wonShare : List Cond := .code yX6_wonShare cX6_wonShare 2 (some .float) :: ((wsX6_wonShare_r1 ++ (wsX6_wonShare_r2 ++ wsX6_wonShare_r3)) ++ wsX60)
def wsX6_wonBits_r1 : List Cond := [Cond.methodLink RX6 68 yX6_in, Cond.static yX6_in, Cond.initialized RX6, Cond.code yX6_in cX6_in 3 (some .boolean), Cond.methodLink RX6 197 yX6_refuse, Cond.instanceMethod yX6_refuse, Cond.selects RX6 yX6_refuse yX6_refuse, Cond.code yX6_refuse cX6_refuse 2 (some .int), Cond.fieldLink RX6 65 "ParityGameModel" "thrown" "I", Cond.methodLink RX6 239 yX6_shareOf, Cond.instanceMethod yX6_shareOf, Cond.selects RX6 yX6_shareOf yX6_shareOf, Cond.code yX6_shareOf cX6_shareOf 2 (some .float), Cond.fieldLink RX6 13 "ParityGameModel" "now" "[I", Cond.methodLink RX6 233 yX6_wonBy, Cond.instanceMethod yX6_wonBy, Cond.selects RX6 yX6_wonBy yX6_wonBy, Cond.code yX6_wonBy cX6_wonBy 3 (some .int), Cond.methodLink RX6 96 yX6_wonByEven, Cond.instanceMethod yX6_wonByEven, Cond.selects RX6 yX6_wonByEven yX6_wonByEven, Cond.code yX6_wonByEven cX6_wonByEven 1 (some .int), Cond.methodLink RX6 89 yX6_looksAtAll, Cond.instanceMethod yX6_looksAtAll]
def wsX6_wonBits_r2 : List Cond := [Cond.selects RX6 yX6_looksAtAll yX6_looksAtAll, Cond.code yX6_looksAtAll cX6_looksAtAll 2 none, Cond.fieldLink RX6 36 "ParityGameModel" "live" "[I", Cond.methodLink RX6 92 yX6_solved, Cond.instanceMethod yX6_solved, Cond.selects RX6 yX6_solved yX6_solved, Cond.code yX6_solved cX6_solved 4 (some .int), Cond.fieldLink RX6 42 "ParityGameModel" "measure" "[I", Cond.fieldLink RX6 75 "ParityGameModel" "top" "I", Cond.methodLink RX6 82 yX6_weighs, Cond.instanceMethod yX6_weighs, Cond.selects RX6 yX6_weighs yX6_weighs, Cond.code yX6_weighs cX6_weighs 5 none, Cond.fieldLink RX6 39 "ParityGameModel" "weight" "[I", Cond.methodLink RX6 85 yX6_lifted, Cond.instanceMethod yX6_lifted, Cond.selects RX6 yX6_lifted yX6_lifted, Cond.code yX6_lifted cX6_lifted 6 (some .int), Cond.methodLink RX6 78 yX6_over, Cond.instanceMethod yX6_over, Cond.selects RX6 yX6_over yX6_over, Cond.code yX6_over cX6_over 4 (some .int), Cond.methodLink RX6 99 yX6_all, Cond.instanceMethod yX6_all]
def wsX6_wonBits_r3 : List Cond := [Cond.selects RX6 yX6_all yX6_all, Cond.code yX6_all cX6_all 1 (some .int), Cond.methodLink RX6 236 yX6_many, Cond.static yX6_many, Cond.code yX6_many cX6_many 3 (some .int), Cond.methodLink RX6 243 yJxf58ca_floatToIntBits_5c35a, Cond.static yJxf58ca_floatToIntBits_5c35a, Cond.initialized RJxf58ca, Cond.code yJxf58ca_floatToIntBits_5c35a cJxf58ca_floatToIntBits_5c35a 1 (some .int), Cond.methodLink RJxf58ca 74 ⟨"java/lang/Float", "floatToRawIntBits", "(F)I"⟩, Cond.native ⟨"java/lang/Float", "floatToRawIntBits", "(F)I"⟩, Cond.static ⟨"java/lang/Float", "floatToRawIntBits", "(F)I"⟩, Cond.initialized "java/lang/Float", Cond.constant RJxf58ca 77 (2143289344), Cond.methodLink RJxf58ca 59 yJxf58ca_isNaN_12338, Cond.static yJxf58ca_isNaN_12338, Cond.code yJxf58ca_isNaN_12338 cJxf58ca_isNaN_12338 1 (some .boolean), Cond.methodLink RX6 203 yX6_told, Cond.instanceMethod yX6_told, Cond.selects RX6 yX6_told yX6_told, Cond.code yX6_told cX6_told 2 (some .int)]
def wsX6_wonBits : List Cond := .code yX6_wonBits cX6_wonBits 2 (some .int) :: ((wsX6_wonBits_r1 ++ (wsX6_wonBits_r2 ++ wsX6_wonBits_r3)) ++ wsX60)
def wsX6_meanCall_r1 : List Cond := [Cond.fieldLink RX6 65 "ParityGameModel" "thrown" "I", Cond.fieldLink RX6 13 "ParityGameModel" "now" "[I", Cond.methodLink RX6 68 yX6_in, Cond.static yX6_in, Cond.initialized RX6, Cond.code yX6_in cX6_in 3 (some .boolean), Cond.methodLink RX6 233 yX6_wonBy, Cond.instanceMethod yX6_wonBy, Cond.selects RX6 yX6_wonBy yX6_wonBy, Cond.code yX6_wonBy cX6_wonBy 3 (some .int), Cond.methodLink RX6 96 yX6_wonByEven, Cond.instanceMethod yX6_wonByEven, Cond.selects RX6 yX6_wonByEven yX6_wonByEven, Cond.code yX6_wonByEven cX6_wonByEven 1 (some .int), Cond.methodLink RX6 89 yX6_looksAtAll, Cond.instanceMethod yX6_looksAtAll, Cond.selects RX6 yX6_looksAtAll yX6_looksAtAll, Cond.code yX6_looksAtAll cX6_looksAtAll 2 none, Cond.fieldLink RX6 36 "ParityGameModel" "live" "[I", Cond.methodLink RX6 92 yX6_solved, Cond.instanceMethod yX6_solved, Cond.selects RX6 yX6_solved yX6_solved, Cond.code yX6_solved cX6_solved 4 (some .int), Cond.fieldLink RX6 42 "ParityGameModel" "measure" "[I"]
def wsX6_meanCall_r2 : List Cond := [Cond.fieldLink RX6 75 "ParityGameModel" "top" "I", Cond.methodLink RX6 82 yX6_weighs, Cond.instanceMethod yX6_weighs, Cond.selects RX6 yX6_weighs yX6_weighs, Cond.code yX6_weighs cX6_weighs 5 none, Cond.fieldLink RX6 39 "ParityGameModel" "weight" "[I", Cond.methodLink RX6 85 yX6_lifted, Cond.instanceMethod yX6_lifted, Cond.selects RX6 yX6_lifted yX6_lifted, Cond.code yX6_lifted cX6_lifted 6 (some .int), Cond.methodLink RX6 78 yX6_over, Cond.instanceMethod yX6_over, Cond.selects RX6 yX6_over yX6_over, Cond.code yX6_over cX6_over 4 (some .int), Cond.methodLink RX6 99 yX6_all, Cond.instanceMethod yX6_all, Cond.selects RX6 yX6_all yX6_all, Cond.code yX6_all cX6_all 1 (some .int), Cond.methodLink RX6 102 yX6_has, Cond.static yX6_has, Cond.code yX6_has cX6_has 2 (some .boolean), Cond.methodLink RX6 236 yX6_many, Cond.static yX6_many, Cond.code yX6_many cX6_many 3 (some .int)]
def wsX6_meanCall : List Cond := .code yX6_meanCall cX6_meanCall 5 (some .double) :: ((wsX6_meanCall_r1 ++ wsX6_meanCall_r2) ++ wsX60)
def wsX6_plan_r1 : List Cond := [Cond.fieldLink RX6 45 "ParityGameModel" "planned" "[I", Cond.methodLink RX6 173 yX6_isPlace, Cond.instanceMethod yX6_isPlace, Cond.selects RX6 yX6_isPlace yX6_isPlace, Cond.initialized RX6, Cond.code yX6_isPlace cX6_isPlace 2 (some .boolean), Cond.fieldLink RX6 13 "ParityGameModel" "now" "[I", Cond.methodLink RX6 68 yX6_in, Cond.static yX6_in, Cond.code yX6_in cX6_in 3 (some .boolean), Cond.methodLink RX6 197 yX6_refuse, Cond.instanceMethod yX6_refuse, Cond.selects RX6 yX6_refuse yX6_refuse, Cond.code yX6_refuse cX6_refuse 2 (some .int), Cond.fieldLink RX6 65 "ParityGameModel" "thrown" "I", Cond.methodLink RX6 249 yX6_plans, Cond.instanceMethod yX6_plans, Cond.selects RX6 yX6_plans yX6_plans, Cond.code yX6_plans cX6_plans 3 none, Cond.methodLink RX6 96 yX6_wonByEven, Cond.instanceMethod yX6_wonByEven, Cond.selects RX6 yX6_wonByEven yX6_wonByEven, Cond.code yX6_wonByEven cX6_wonByEven 1 (some .int), Cond.methodLink RX6 89 yX6_looksAtAll]
def wsX6_plan_r2 : List Cond := [Cond.instanceMethod yX6_looksAtAll, Cond.selects RX6 yX6_looksAtAll yX6_looksAtAll, Cond.code yX6_looksAtAll cX6_looksAtAll 2 none, Cond.fieldLink RX6 36 "ParityGameModel" "live" "[I", Cond.methodLink RX6 92 yX6_solved, Cond.instanceMethod yX6_solved, Cond.selects RX6 yX6_solved yX6_solved, Cond.code yX6_solved cX6_solved 4 (some .int), Cond.fieldLink RX6 42 "ParityGameModel" "measure" "[I", Cond.fieldLink RX6 75 "ParityGameModel" "top" "I", Cond.methodLink RX6 82 yX6_weighs, Cond.instanceMethod yX6_weighs, Cond.selects RX6 yX6_weighs yX6_weighs, Cond.code yX6_weighs cX6_weighs 5 none, Cond.fieldLink RX6 39 "ParityGameModel" "weight" "[I", Cond.methodLink RX6 85 yX6_lifted, Cond.instanceMethod yX6_lifted, Cond.selects RX6 yX6_lifted yX6_lifted, Cond.code yX6_lifted cX6_lifted 6 (some .int), Cond.methodLink RX6 78 yX6_over, Cond.instanceMethod yX6_over, Cond.selects RX6 yX6_over yX6_over, Cond.code yX6_over cX6_over 4 (some .int), Cond.methodLink RX6 109 yX6_firstMove]
def wsX6_plan_r3 : List Cond := [Cond.instanceMethod yX6_firstMove, Cond.selects RX6 yX6_firstMove yX6_firstMove, Cond.code yX6_firstMove cX6_firstMove 3 (some .int), Cond.methodLink RX6 112 yX6_plansFor, Cond.instanceMethod yX6_plansFor, Cond.selects RX6 yX6_plansFor yX6_plansFor, Cond.code yX6_plansFor cX6_plansFor 8 none, Cond.methodLink RX6 102 yX6_has, Cond.static yX6_has, Cond.code yX6_has cX6_has 2 (some .boolean), Cond.methodLink RX6 106 yX6_only, Cond.instanceMethod yX6_only, Cond.selects RX6 yX6_only yX6_only, Cond.code yX6_only cX6_only 4 none, Cond.methodLink RX6 99 yX6_all, Cond.instanceMethod yX6_all, Cond.selects RX6 yX6_all yX6_all, Cond.code yX6_all cX6_all 1 (some .int), Cond.methodLink RX6 203 yX6_told, Cond.instanceMethod yX6_told, Cond.selects RX6 yX6_told yX6_told, Cond.code yX6_told cX6_told 2 (some .int)]
def wsX6_plan : List Cond := .code yX6_plan cX6_plan 2 (some .int) :: ((wsX6_plan_r1 ++ (wsX6_plan_r2 ++ wsX6_plan_r3)) ++ wsX60)
def wsX6_follow_r1 : List Cond := [Cond.fieldLink RX6 45 "ParityGameModel" "planned" "[I", Cond.fieldLink RX6 13 "ParityGameModel" "now" "[I", Cond.methodLink RX6 173 yX6_isPlace, Cond.instanceMethod yX6_isPlace, Cond.selects RX6 yX6_isPlace yX6_isPlace, Cond.initialized RX6, Cond.code yX6_isPlace cX6_isPlace 2 (some .boolean), Cond.methodLink RX6 68 yX6_in, Cond.static yX6_in, Cond.code yX6_in cX6_in 3 (some .boolean), Cond.methodLink RX6 197 yX6_refuse, Cond.instanceMethod yX6_refuse, Cond.selects RX6 yX6_refuse yX6_refuse, Cond.code yX6_refuse cX6_refuse 2 (some .int), Cond.fieldLink RX6 65 "ParityGameModel" "thrown" "I", Cond.methodLink RX6 249 yX6_plans, Cond.instanceMethod yX6_plans, Cond.selects RX6 yX6_plans yX6_plans, Cond.code yX6_plans cX6_plans 3 none, Cond.methodLink RX6 96 yX6_wonByEven, Cond.instanceMethod yX6_wonByEven, Cond.selects RX6 yX6_wonByEven yX6_wonByEven, Cond.code yX6_wonByEven cX6_wonByEven 1 (some .int), Cond.methodLink RX6 89 yX6_looksAtAll]
def wsX6_follow_r2 : List Cond := [Cond.instanceMethod yX6_looksAtAll, Cond.selects RX6 yX6_looksAtAll yX6_looksAtAll, Cond.code yX6_looksAtAll cX6_looksAtAll 2 none, Cond.fieldLink RX6 36 "ParityGameModel" "live" "[I", Cond.methodLink RX6 92 yX6_solved, Cond.instanceMethod yX6_solved, Cond.selects RX6 yX6_solved yX6_solved, Cond.code yX6_solved cX6_solved 4 (some .int), Cond.fieldLink RX6 42 "ParityGameModel" "measure" "[I", Cond.fieldLink RX6 75 "ParityGameModel" "top" "I", Cond.methodLink RX6 82 yX6_weighs, Cond.instanceMethod yX6_weighs, Cond.selects RX6 yX6_weighs yX6_weighs, Cond.code yX6_weighs cX6_weighs 5 none, Cond.fieldLink RX6 39 "ParityGameModel" "weight" "[I", Cond.methodLink RX6 85 yX6_lifted, Cond.instanceMethod yX6_lifted, Cond.selects RX6 yX6_lifted yX6_lifted, Cond.code yX6_lifted cX6_lifted 6 (some .int), Cond.methodLink RX6 78 yX6_over, Cond.instanceMethod yX6_over, Cond.selects RX6 yX6_over yX6_over, Cond.code yX6_over cX6_over 4 (some .int), Cond.methodLink RX6 109 yX6_firstMove]
def wsX6_follow_r3 : List Cond := [Cond.instanceMethod yX6_firstMove, Cond.selects RX6 yX6_firstMove yX6_firstMove, Cond.code yX6_firstMove cX6_firstMove 3 (some .int), Cond.methodLink RX6 112 yX6_plansFor, Cond.instanceMethod yX6_plansFor, Cond.selects RX6 yX6_plansFor yX6_plansFor, Cond.code yX6_plansFor cX6_plansFor 8 none, Cond.methodLink RX6 102 yX6_has, Cond.static yX6_has, Cond.code yX6_has cX6_has 2 (some .boolean), Cond.methodLink RX6 106 yX6_only, Cond.instanceMethod yX6_only, Cond.selects RX6 yX6_only yX6_only, Cond.code yX6_only cX6_only 4 none, Cond.methodLink RX6 99 yX6_all, Cond.instanceMethod yX6_all, Cond.selects RX6 yX6_all yX6_all, Cond.code yX6_all cX6_all 1 (some .int), Cond.methodLink RX6 203 yX6_told, Cond.instanceMethod yX6_told, Cond.selects RX6 yX6_told yX6_told, Cond.code yX6_told cX6_told 2 (some .int)]
def wsX6_follow : List Cond := .code yX6_follow cX6_follow 5 (some .int) :: ((wsX6_follow_r1 ++ (wsX6_follow_r2 ++ wsX6_follow_r3)) ++ wsX60)
def wsX6_play_r1 : List Cond := [Cond.fieldLink RX6 115 "ParityGameModel" "ahead" "I", Cond.fieldLink RX6 118 "ParityGameModel" "round" "I", Cond.fieldLink RX6 121 "ParityGameModel" "loudest" "I", Cond.methodLink RX6 173 yX6_isPlace, Cond.instanceMethod yX6_isPlace, Cond.selects RX6 yX6_isPlace yX6_isPlace, Cond.initialized RX6, Cond.code yX6_isPlace cX6_isPlace 2 (some .boolean), Cond.fieldLink RX6 13 "ParityGameModel" "now" "[I", Cond.methodLink RX6 68 yX6_in, Cond.static yX6_in, Cond.code yX6_in cX6_in 3 (some .boolean), Cond.methodLink RX6 197 yX6_refuse, Cond.instanceMethod yX6_refuse, Cond.selects RX6 yX6_refuse yX6_refuse, Cond.code yX6_refuse cX6_refuse 2 (some .int), Cond.fieldLink RX6 65 "ParityGameModel" "thrown" "I", Cond.methodLink RX6 249 yX6_plans, Cond.instanceMethod yX6_plans, Cond.selects RX6 yX6_plans yX6_plans, Cond.code yX6_plans cX6_plans 3 none, Cond.fieldLink RX6 45 "ParityGameModel" "planned" "[I", Cond.methodLink RX6 96 yX6_wonByEven, Cond.instanceMethod yX6_wonByEven]
def wsX6_play_r2 : List Cond := [Cond.selects RX6 yX6_wonByEven yX6_wonByEven, Cond.code yX6_wonByEven cX6_wonByEven 1 (some .int), Cond.methodLink RX6 89 yX6_looksAtAll, Cond.instanceMethod yX6_looksAtAll, Cond.selects RX6 yX6_looksAtAll yX6_looksAtAll, Cond.code yX6_looksAtAll cX6_looksAtAll 2 none, Cond.fieldLink RX6 36 "ParityGameModel" "live" "[I", Cond.methodLink RX6 92 yX6_solved, Cond.instanceMethod yX6_solved, Cond.selects RX6 yX6_solved yX6_solved, Cond.code yX6_solved cX6_solved 4 (some .int), Cond.fieldLink RX6 42 "ParityGameModel" "measure" "[I", Cond.fieldLink RX6 75 "ParityGameModel" "top" "I", Cond.methodLink RX6 82 yX6_weighs, Cond.instanceMethod yX6_weighs, Cond.selects RX6 yX6_weighs yX6_weighs, Cond.code yX6_weighs cX6_weighs 5 none, Cond.fieldLink RX6 39 "ParityGameModel" "weight" "[I", Cond.methodLink RX6 85 yX6_lifted, Cond.instanceMethod yX6_lifted, Cond.selects RX6 yX6_lifted yX6_lifted, Cond.code yX6_lifted cX6_lifted 6 (some .int), Cond.methodLink RX6 78 yX6_over, Cond.instanceMethod yX6_over]
def wsX6_play_r3 : List Cond := [Cond.selects RX6 yX6_over yX6_over, Cond.code yX6_over cX6_over 4 (some .int), Cond.methodLink RX6 109 yX6_firstMove, Cond.instanceMethod yX6_firstMove, Cond.selects RX6 yX6_firstMove yX6_firstMove, Cond.code yX6_firstMove cX6_firstMove 3 (some .int), Cond.methodLink RX6 112 yX6_plansFor, Cond.instanceMethod yX6_plansFor, Cond.selects RX6 yX6_plansFor yX6_plansFor, Cond.code yX6_plansFor cX6_plansFor 8 none, Cond.methodLink RX6 102 yX6_has, Cond.static yX6_has, Cond.code yX6_has cX6_has 2 (some .boolean), Cond.methodLink RX6 106 yX6_only, Cond.instanceMethod yX6_only, Cond.selects RX6 yX6_only yX6_only, Cond.code yX6_only cX6_only 4 none, Cond.methodLink RX6 99 yX6_all, Cond.instanceMethod yX6_all, Cond.selects RX6 yX6_all yX6_all, Cond.code yX6_all cX6_all 1 (some .int), Cond.methodLink RX6 252 yX6_plays, Cond.instanceMethod yX6_plays, Cond.selects RX6 yX6_plays yX6_plays]
def wsX6_play_r4 : List Cond := [Cond.code yX6_plays cX6_plays 5 none, Cond.fieldLink RX6 48 "ParityGameModel" "came" "[I", Cond.methodLink RX6 203 yX6_told, Cond.instanceMethod yX6_told, Cond.selects RX6 yX6_told yX6_told, Cond.code yX6_told cX6_told 2 (some .int)]
def wsX6_play : List Cond := .code yX6_play cX6_play 3 (some .int) :: ((wsX6_play_r1 ++ (wsX6_play_r2 ++ (wsX6_play_r3 ++ wsX6_play_r4))) ++ wsX60)
def wsX6_pull_r1 : List Cond := [Cond.methodLink RX6 68 yX6_in, Cond.static yX6_in, Cond.initialized RX6, Cond.code yX6_in cX6_in 3 (some .boolean), Cond.methodLink RX6 255 yX6_isSet, Cond.instanceMethod yX6_isSet, Cond.selects RX6 yX6_isSet yX6_isSet, Cond.code yX6_isSet cX6_isSet 2 (some .boolean), Cond.fieldLink RX6 13 "ParityGameModel" "now" "[I", Cond.methodLink RX6 197 yX6_refuse, Cond.instanceMethod yX6_refuse, Cond.selects RX6 yX6_refuse yX6_refuse, Cond.code yX6_refuse cX6_refuse 2 (some .int), Cond.fieldLink RX6 65 "ParityGameModel" "thrown" "I", Cond.methodLink RX6 133 yX6_pulls, Cond.instanceMethod yX6_pulls, Cond.selects RX6 yX6_pulls yX6_pulls, Cond.code yX6_pulls cX6_pulls 7 (some .int), Cond.fieldLink RX6 51 "ParityGameModel" "rank" "[I", Cond.methodLink RX6 102 yX6_has, Cond.static yX6_has, Cond.code yX6_has cX6_has 2 (some .boolean), Cond.methodLink RX6 127 yX6_forcing, Cond.instanceMethod yX6_forcing]
def wsX6_pull_r2 : List Cond := [Cond.selects RX6 yX6_forcing yX6_forcing, Cond.code yX6_forcing cX6_forcing 5 (some .int), Cond.methodLink RX6 124 yX6_forces, Cond.instanceMethod yX6_forces, Cond.selects RX6 yX6_forces yX6_forces, Cond.code yX6_forces cX6_forces 7 (some .boolean), Cond.methodLink RX6 203 yX6_told, Cond.instanceMethod yX6_told, Cond.selects RX6 yX6_told yX6_told, Cond.code yX6_told cX6_told 2 (some .int)]
def wsX6_pull : List Cond := .code yX6_pull cX6_pull 3 (some .int) :: ((wsX6_pull_r1 ++ wsX6_pull_r2) ++ wsX60)
def wsX6_pullIn_r1 : List Cond := [Cond.fieldLink RX6 51 "ParityGameModel" "rank" "[I", Cond.methodLink RX6 173 yX6_isPlace, Cond.instanceMethod yX6_isPlace, Cond.selects RX6 yX6_isPlace yX6_isPlace, Cond.initialized RX6, Cond.code yX6_isPlace cX6_isPlace 2 (some .boolean), Cond.fieldLink RX6 13 "ParityGameModel" "now" "[I", Cond.methodLink RX6 68 yX6_in, Cond.static yX6_in, Cond.code yX6_in cX6_in 3 (some .boolean), Cond.methodLink RX6 197 yX6_refuse, Cond.instanceMethod yX6_refuse, Cond.selects RX6 yX6_refuse yX6_refuse, Cond.code yX6_refuse cX6_refuse 2 (some .int), Cond.fieldLink RX6 65 "ParityGameModel" "thrown" "I", Cond.methodLink RX6 255 yX6_isSet, Cond.instanceMethod yX6_isSet, Cond.selects RX6 yX6_isSet yX6_isSet, Cond.code yX6_isSet cX6_isSet 2 (some .boolean), Cond.methodLink RX6 133 yX6_pulls, Cond.instanceMethod yX6_pulls, Cond.selects RX6 yX6_pulls yX6_pulls, Cond.code yX6_pulls cX6_pulls 7 (some .int), Cond.methodLink RX6 102 yX6_has]
def wsX6_pullIn_r2 : List Cond := [Cond.static yX6_has, Cond.code yX6_has cX6_has 2 (some .boolean), Cond.methodLink RX6 127 yX6_forcing, Cond.instanceMethod yX6_forcing, Cond.selects RX6 yX6_forcing yX6_forcing, Cond.code yX6_forcing cX6_forcing 5 (some .int), Cond.methodLink RX6 124 yX6_forces, Cond.instanceMethod yX6_forces, Cond.selects RX6 yX6_forces yX6_forces, Cond.code yX6_forces cX6_forces 7 (some .boolean), Cond.methodLink RX6 203 yX6_told, Cond.instanceMethod yX6_told, Cond.selects RX6 yX6_told yX6_told, Cond.code yX6_told cX6_told 2 (some .int)]
def wsX6_pullIn : List Cond := .code yX6_pullIn cX6_pullIn 5 (some .int) :: ((wsX6_pullIn_r1 ++ wsX6_pullIn_r2) ++ wsX60)
def wsX6_stay_r1 : List Cond := [Cond.methodLink RX6 68 yX6_in, Cond.static yX6_in, Cond.initialized RX6, Cond.code yX6_in cX6_in 3 (some .boolean), Cond.methodLink RX6 255 yX6_isSet, Cond.instanceMethod yX6_isSet, Cond.selects RX6 yX6_isSet yX6_isSet, Cond.code yX6_isSet cX6_isSet 2 (some .boolean), Cond.fieldLink RX6 13 "ParityGameModel" "now" "[I", Cond.methodLink RX6 197 yX6_refuse, Cond.instanceMethod yX6_refuse, Cond.selects RX6 yX6_refuse yX6_refuse, Cond.code yX6_refuse cX6_refuse 2 (some .int), Cond.fieldLink RX6 65 "ParityGameModel" "thrown" "I", Cond.methodLink RX6 258 yX6_stays, Cond.instanceMethod yX6_stays, Cond.selects RX6 yX6_stays yX6_stays, Cond.code yX6_stays cX6_stays 6 (some .int), Cond.methodLink RX6 102 yX6_has, Cond.static yX6_has, Cond.code yX6_has cX6_has 2 (some .boolean), Cond.methodLink RX6 130 yX6_leaves, Cond.instanceMethod yX6_leaves, Cond.selects RX6 yX6_leaves yX6_leaves]
def wsX6_stay_r2 : List Cond := [Cond.code yX6_leaves cX6_leaves 7 (some .boolean), Cond.methodLink RX6 203 yX6_told, Cond.instanceMethod yX6_told, Cond.selects RX6 yX6_told yX6_told, Cond.code yX6_told cX6_told 2 (some .int)]
def wsX6_stay : List Cond := .code yX6_stay cX6_stay 3 (some .int) :: ((wsX6_stay_r1 ++ wsX6_stay_r2) ++ wsX60)
def wsX6_comeBack_r1 : List Cond := [Cond.methodLink RX6 68 yX6_in, Cond.static yX6_in, Cond.initialized RX6, Cond.code yX6_in cX6_in 3 (some .boolean), Cond.methodLink RX6 255 yX6_isSet, Cond.instanceMethod yX6_isSet, Cond.selects RX6 yX6_isSet yX6_isSet, Cond.code yX6_isSet cX6_isSet 2 (some .boolean), Cond.fieldLink RX6 13 "ParityGameModel" "now" "[I", Cond.methodLink RX6 197 yX6_refuse, Cond.instanceMethod yX6_refuse, Cond.selects RX6 yX6_refuse yX6_refuse, Cond.code yX6_refuse cX6_refuse 2 (some .int), Cond.fieldLink RX6 65 "ParityGameModel" "thrown" "I", Cond.methodLink RX6 261 yX6_comesBack, Cond.instanceMethod yX6_comesBack, Cond.selects RX6 yX6_comesBack yX6_comesBack, Cond.code yX6_comesBack cX6_comesBack 5 (some .int), Cond.methodLink RX6 99 yX6_all, Cond.instanceMethod yX6_all, Cond.selects RX6 yX6_all yX6_all, Cond.code yX6_all cX6_all 1 (some .int), Cond.methodLink RX6 127 yX6_forcing, Cond.instanceMethod yX6_forcing]
def wsX6_comeBack_r2 : List Cond := [Cond.selects RX6 yX6_forcing yX6_forcing, Cond.code yX6_forcing cX6_forcing 5 (some .int), Cond.methodLink RX6 124 yX6_forces, Cond.instanceMethod yX6_forces, Cond.selects RX6 yX6_forces yX6_forces, Cond.code yX6_forces cX6_forces 7 (some .boolean), Cond.methodLink RX6 102 yX6_has, Cond.static yX6_has, Cond.code yX6_has cX6_has 2 (some .boolean), Cond.methodLink RX6 133 yX6_pulls, Cond.instanceMethod yX6_pulls, Cond.selects RX6 yX6_pulls yX6_pulls, Cond.code yX6_pulls cX6_pulls 7 (some .int), Cond.fieldLink RX6 51 "ParityGameModel" "rank" "[I", Cond.methodLink RX6 203 yX6_told, Cond.instanceMethod yX6_told, Cond.selects RX6 yX6_told yX6_told, Cond.code yX6_told cX6_told 2 (some .int)]
def wsX6_comeBack : List Cond := .code yX6_comeBack cX6_comeBack 3 (some .int) :: ((wsX6_comeBack_r1 ++ wsX6_comeBack_r2) ++ wsX60)
def wsX6_isTrap : List Cond := .code yX6_isTrap cX6_isTrap 7 (some .boolean) :: ([.fieldLink RX6 65 "ParityGameModel" "thrown" "I", .fieldLink RX6 13 "ParityGameModel" "now" "[I", .methodLink RX6 68 yX6_in, .static yX6_in, .initialized RX6, .code yX6_in cX6_in 3 (some .boolean), .methodLink RX6 255 yX6_isSet, .instanceMethod yX6_isSet, .selects RX6 yX6_isSet yX6_isSet, .code yX6_isSet cX6_isSet 2 (some .boolean), .methodLink RX6 102 yX6_has, .static yX6_has, .code yX6_has cX6_has 2 (some .boolean), .methodLink RX6 224 yX6_movesAt, .instanceMethod yX6_movesAt, .selects RX6 yX6_movesAt yX6_movesAt, .code yX6_movesAt cX6_movesAt 5 (some .int)] ++ wsX60)
def wsX6_canHear_r1 : List Cond := [Cond.fieldLink RX6 13 "ParityGameModel" "now" "[I", Cond.methodLink RX6 68 yX6_in, Cond.static yX6_in, Cond.initialized RX6, Cond.code yX6_in cX6_in 3 (some .boolean), Cond.methodLink RX6 197 yX6_refuse, Cond.instanceMethod yX6_refuse, Cond.selects RX6 yX6_refuse yX6_refuse, Cond.code yX6_refuse cX6_refuse 2 (some .int), Cond.fieldLink RX6 65 "ParityGameModel" "thrown" "I", Cond.methodLink RX6 261 yX6_comesBack, Cond.instanceMethod yX6_comesBack, Cond.selects RX6 yX6_comesBack yX6_comesBack, Cond.code yX6_comesBack cX6_comesBack 5 (some .int), Cond.methodLink RX6 99 yX6_all, Cond.instanceMethod yX6_all, Cond.selects RX6 yX6_all yX6_all, Cond.code yX6_all cX6_all 1 (some .int), Cond.methodLink RX6 127 yX6_forcing, Cond.instanceMethod yX6_forcing, Cond.selects RX6 yX6_forcing yX6_forcing, Cond.code yX6_forcing cX6_forcing 5 (some .int), Cond.methodLink RX6 124 yX6_forces, Cond.instanceMethod yX6_forces]
def wsX6_canHear_r2 : List Cond := [Cond.selects RX6 yX6_forces yX6_forces, Cond.code yX6_forces cX6_forces 7 (some .boolean), Cond.methodLink RX6 102 yX6_has, Cond.static yX6_has, Cond.code yX6_has cX6_has 2 (some .boolean), Cond.methodLink RX6 133 yX6_pulls, Cond.instanceMethod yX6_pulls, Cond.selects RX6 yX6_pulls yX6_pulls, Cond.code yX6_pulls cX6_pulls 7 (some .int), Cond.fieldLink RX6 51 "ParityGameModel" "rank" "[I", Cond.methodLink RX6 203 yX6_told, Cond.instanceMethod yX6_told, Cond.selects RX6 yX6_told yX6_told, Cond.code yX6_told cX6_told 2 (some .int)]
def wsX6_canHear : List Cond := .code yX6_canHear cX6_canHear 5 (some .int) :: ((wsX6_canHear_r1 ++ wsX6_canHear_r2) ++ wsX60)
def wsX6_wonIfCall_r1 : List Cond := [Cond.fieldLink RX6 13 "ParityGameModel" "now" "[I", Cond.methodLink RX6 173 yX6_isPlace, Cond.instanceMethod yX6_isPlace, Cond.selects RX6 yX6_isPlace yX6_isPlace, Cond.initialized RX6, Cond.code yX6_isPlace cX6_isPlace 2 (some .boolean), Cond.methodLink RX6 68 yX6_in, Cond.static yX6_in, Cond.code yX6_in cX6_in 3 (some .boolean), Cond.methodLink RX6 197 yX6_refuse, Cond.instanceMethod yX6_refuse, Cond.selects RX6 yX6_refuse yX6_refuse, Cond.code yX6_refuse cX6_refuse 2 (some .int), Cond.fieldLink RX6 65 "ParityGameModel" "thrown" "I", Cond.methodLink RX6 96 yX6_wonByEven, Cond.instanceMethod yX6_wonByEven, Cond.selects RX6 yX6_wonByEven yX6_wonByEven, Cond.code yX6_wonByEven cX6_wonByEven 1 (some .int), Cond.methodLink RX6 89 yX6_looksAtAll, Cond.instanceMethod yX6_looksAtAll, Cond.selects RX6 yX6_looksAtAll yX6_looksAtAll, Cond.code yX6_looksAtAll cX6_looksAtAll 2 none, Cond.fieldLink RX6 36 "ParityGameModel" "live" "[I", Cond.methodLink RX6 92 yX6_solved]
def wsX6_wonIfCall_r2 : List Cond := [Cond.instanceMethod yX6_solved, Cond.selects RX6 yX6_solved yX6_solved, Cond.code yX6_solved cX6_solved 4 (some .int), Cond.fieldLink RX6 42 "ParityGameModel" "measure" "[I", Cond.fieldLink RX6 75 "ParityGameModel" "top" "I", Cond.methodLink RX6 82 yX6_weighs, Cond.instanceMethod yX6_weighs, Cond.selects RX6 yX6_weighs yX6_weighs, Cond.code yX6_weighs cX6_weighs 5 none, Cond.fieldLink RX6 39 "ParityGameModel" "weight" "[I", Cond.methodLink RX6 85 yX6_lifted, Cond.instanceMethod yX6_lifted, Cond.selects RX6 yX6_lifted yX6_lifted, Cond.code yX6_lifted cX6_lifted 6 (some .int), Cond.methodLink RX6 78 yX6_over, Cond.instanceMethod yX6_over, Cond.selects RX6 yX6_over yX6_over, Cond.code yX6_over cX6_over 4 (some .int), Cond.methodLink RX6 203 yX6_told, Cond.instanceMethod yX6_told, Cond.selects RX6 yX6_told yX6_told, Cond.code yX6_told cX6_told 2 (some .int)]
def wsX6_wonIfCall : List Cond := .code yX6_wonIfCall cX6_wonIfCall 5 (some .int) :: ((wsX6_wonIfCall_r1 ++ wsX6_wonIfCall_r2) ++ wsX60)
def wsX6_wonOther_r1 : List Cond := [Cond.fieldLink RX6 13 "ParityGameModel" "now" "[I", Cond.methodLink RX6 96 yX6_wonByEven, Cond.instanceMethod yX6_wonByEven, Cond.selects RX6 yX6_wonByEven yX6_wonByEven, Cond.initialized RX6, Cond.code yX6_wonByEven cX6_wonByEven 1 (some .int), Cond.methodLink RX6 89 yX6_looksAtAll, Cond.instanceMethod yX6_looksAtAll, Cond.selects RX6 yX6_looksAtAll yX6_looksAtAll, Cond.code yX6_looksAtAll cX6_looksAtAll 2 none, Cond.fieldLink RX6 36 "ParityGameModel" "live" "[I", Cond.methodLink RX6 92 yX6_solved, Cond.instanceMethod yX6_solved, Cond.selects RX6 yX6_solved yX6_solved, Cond.code yX6_solved cX6_solved 4 (some .int), Cond.fieldLink RX6 42 "ParityGameModel" "measure" "[I", Cond.fieldLink RX6 75 "ParityGameModel" "top" "I", Cond.methodLink RX6 82 yX6_weighs, Cond.instanceMethod yX6_weighs, Cond.selects RX6 yX6_weighs yX6_weighs, Cond.code yX6_weighs cX6_weighs 5 none, Cond.fieldLink RX6 39 "ParityGameModel" "weight" "[I", Cond.methodLink RX6 85 yX6_lifted, Cond.instanceMethod yX6_lifted]
def wsX6_wonOther_r2 : List Cond := [Cond.selects RX6 yX6_lifted yX6_lifted, Cond.code yX6_lifted cX6_lifted 6 (some .int), Cond.methodLink RX6 78 yX6_over, Cond.instanceMethod yX6_over, Cond.selects RX6 yX6_over yX6_over, Cond.code yX6_over cX6_over 4 (some .int)]
def wsX6_wonOther : List Cond := .code yX6_wonOther cX6_wonOther 3 (some .int) :: ((wsX6_wonOther_r1 ++ wsX6_wonOther_r2) ++ wsX60)
def wsX6_wonIfOther_r1 : List Cond := [Cond.methodLink RX6 173 yX6_isPlace, Cond.instanceMethod yX6_isPlace, Cond.selects RX6 yX6_isPlace yX6_isPlace, Cond.initialized RX6, Cond.code yX6_isPlace cX6_isPlace 2 (some .boolean), Cond.fieldLink RX6 13 "ParityGameModel" "now" "[I", Cond.methodLink RX6 68 yX6_in, Cond.static yX6_in, Cond.code yX6_in cX6_in 3 (some .boolean), Cond.methodLink RX6 197 yX6_refuse, Cond.instanceMethod yX6_refuse, Cond.selects RX6 yX6_refuse yX6_refuse, Cond.code yX6_refuse cX6_refuse 2 (some .int), Cond.fieldLink RX6 65 "ParityGameModel" "thrown" "I", Cond.methodLink RX6 264 yX6_wonOther, Cond.instanceMethod yX6_wonOther, Cond.selects RX6 yX6_wonOther yX6_wonOther, Cond.code yX6_wonOther cX6_wonOther 3 (some .int), Cond.methodLink RX6 96 yX6_wonByEven, Cond.instanceMethod yX6_wonByEven, Cond.selects RX6 yX6_wonByEven yX6_wonByEven, Cond.code yX6_wonByEven cX6_wonByEven 1 (some .int), Cond.methodLink RX6 89 yX6_looksAtAll, Cond.instanceMethod yX6_looksAtAll]
def wsX6_wonIfOther_r2 : List Cond := [Cond.selects RX6 yX6_looksAtAll yX6_looksAtAll, Cond.code yX6_looksAtAll cX6_looksAtAll 2 none, Cond.fieldLink RX6 36 "ParityGameModel" "live" "[I", Cond.methodLink RX6 92 yX6_solved, Cond.instanceMethod yX6_solved, Cond.selects RX6 yX6_solved yX6_solved, Cond.code yX6_solved cX6_solved 4 (some .int), Cond.fieldLink RX6 42 "ParityGameModel" "measure" "[I", Cond.fieldLink RX6 75 "ParityGameModel" "top" "I", Cond.methodLink RX6 82 yX6_weighs, Cond.instanceMethod yX6_weighs, Cond.selects RX6 yX6_weighs yX6_weighs, Cond.code yX6_weighs cX6_weighs 5 none, Cond.fieldLink RX6 39 "ParityGameModel" "weight" "[I", Cond.methodLink RX6 85 yX6_lifted, Cond.instanceMethod yX6_lifted, Cond.selects RX6 yX6_lifted yX6_lifted, Cond.code yX6_lifted cX6_lifted 6 (some .int), Cond.methodLink RX6 78 yX6_over, Cond.instanceMethod yX6_over, Cond.selects RX6 yX6_over yX6_over, Cond.code yX6_over cX6_over 4 (some .int), Cond.methodLink RX6 203 yX6_told, Cond.instanceMethod yX6_told]
def wsX6_wonIfOther_r3 : List Cond := [Cond.selects RX6 yX6_told yX6_told, Cond.code yX6_told cX6_told 2 (some .int)]
def wsX6_wonIfOther : List Cond := .code yX6_wonIfOther cX6_wonIfOther 2 (some .int) :: ((wsX6_wonIfOther_r1 ++ (wsX6_wonIfOther_r2 ++ wsX6_wonIfOther_r3)) ++ wsX60)
def wsX6_wonBut_r1 : List Cond := [Cond.fieldLink RX6 36 "ParityGameModel" "live" "[I", Cond.methodLink RX6 89 yX6_looksAtAll, Cond.instanceMethod yX6_looksAtAll, Cond.selects RX6 yX6_looksAtAll yX6_looksAtAll, Cond.initialized RX6, Cond.code yX6_looksAtAll cX6_looksAtAll 2 none, Cond.fieldLink RX6 13 "ParityGameModel" "now" "[I", Cond.methodLink RX6 92 yX6_solved, Cond.instanceMethod yX6_solved, Cond.selects RX6 yX6_solved yX6_solved, Cond.code yX6_solved cX6_solved 4 (some .int), Cond.fieldLink RX6 42 "ParityGameModel" "measure" "[I", Cond.fieldLink RX6 75 "ParityGameModel" "top" "I", Cond.methodLink RX6 82 yX6_weighs, Cond.instanceMethod yX6_weighs, Cond.selects RX6 yX6_weighs yX6_weighs, Cond.code yX6_weighs cX6_weighs 5 none, Cond.fieldLink RX6 39 "ParityGameModel" "weight" "[I", Cond.methodLink RX6 85 yX6_lifted, Cond.instanceMethod yX6_lifted, Cond.selects RX6 yX6_lifted yX6_lifted, Cond.code yX6_lifted cX6_lifted 6 (some .int), Cond.methodLink RX6 78 yX6_over, Cond.instanceMethod yX6_over]
def wsX6_wonBut_r2 : List Cond := [Cond.selects RX6 yX6_over yX6_over, Cond.code yX6_over cX6_over 4 (some .int)]
def wsX6_wonBut : List Cond := .code yX6_wonBut cX6_wonBut 2 (some .int) :: ((wsX6_wonBut_r1 ++ wsX6_wonBut_r2) ++ wsX60)
def wsX6_wonWithout_r1 : List Cond := [Cond.methodLink RX6 230 yX6_isMove, Cond.instanceMethod yX6_isMove, Cond.selects RX6 yX6_isMove yX6_isMove, Cond.initialized RX6, Cond.code yX6_isMove cX6_isMove 2 (some .boolean), Cond.fieldLink RX6 13 "ParityGameModel" "now" "[I", Cond.methodLink RX6 68 yX6_in, Cond.static yX6_in, Cond.code yX6_in cX6_in 3 (some .boolean), Cond.methodLink RX6 197 yX6_refuse, Cond.instanceMethod yX6_refuse, Cond.selects RX6 yX6_refuse yX6_refuse, Cond.code yX6_refuse cX6_refuse 2 (some .int), Cond.fieldLink RX6 65 "ParityGameModel" "thrown" "I", Cond.methodLink RX6 267 yX6_wonBut, Cond.instanceMethod yX6_wonBut, Cond.selects RX6 yX6_wonBut yX6_wonBut, Cond.code yX6_wonBut cX6_wonBut 2 (some .int), Cond.fieldLink RX6 36 "ParityGameModel" "live" "[I", Cond.methodLink RX6 89 yX6_looksAtAll, Cond.instanceMethod yX6_looksAtAll, Cond.selects RX6 yX6_looksAtAll yX6_looksAtAll, Cond.code yX6_looksAtAll cX6_looksAtAll 2 none, Cond.methodLink RX6 92 yX6_solved]
def wsX6_wonWithout_r2 : List Cond := [Cond.instanceMethod yX6_solved, Cond.selects RX6 yX6_solved yX6_solved, Cond.code yX6_solved cX6_solved 4 (some .int), Cond.fieldLink RX6 42 "ParityGameModel" "measure" "[I", Cond.fieldLink RX6 75 "ParityGameModel" "top" "I", Cond.methodLink RX6 82 yX6_weighs, Cond.instanceMethod yX6_weighs, Cond.selects RX6 yX6_weighs yX6_weighs, Cond.code yX6_weighs cX6_weighs 5 none, Cond.fieldLink RX6 39 "ParityGameModel" "weight" "[I", Cond.methodLink RX6 85 yX6_lifted, Cond.instanceMethod yX6_lifted, Cond.selects RX6 yX6_lifted yX6_lifted, Cond.code yX6_lifted cX6_lifted 6 (some .int), Cond.methodLink RX6 78 yX6_over, Cond.instanceMethod yX6_over, Cond.selects RX6 yX6_over yX6_over, Cond.code yX6_over cX6_over 4 (some .int), Cond.methodLink RX6 203 yX6_told, Cond.instanceMethod yX6_told, Cond.selects RX6 yX6_told yX6_told, Cond.code yX6_told cX6_told 2 (some .int)]
def wsX6_wonWithout : List Cond := .code yX6_wonWithout cX6_wonWithout 2 (some .int) :: ((wsX6_wonWithout_r1 ++ wsX6_wonWithout_r2) ++ wsX60)
def wsX6_wonWith_r1 : List Cond := [Cond.fieldLink RX6 13 "ParityGameModel" "now" "[I", Cond.methodLink RX6 173 yX6_isPlace, Cond.instanceMethod yX6_isPlace, Cond.selects RX6 yX6_isPlace yX6_isPlace, Cond.initialized RX6, Cond.code yX6_isPlace cX6_isPlace 2 (some .boolean), Cond.methodLink RX6 68 yX6_in, Cond.static yX6_in, Cond.code yX6_in cX6_in 3 (some .boolean), Cond.methodLink RX6 197 yX6_refuse, Cond.instanceMethod yX6_refuse, Cond.selects RX6 yX6_refuse yX6_refuse, Cond.code yX6_refuse cX6_refuse 2 (some .int), Cond.fieldLink RX6 65 "ParityGameModel" "thrown" "I", Cond.methodLink RX6 179 yX6_between, Cond.instanceMethod yX6_between, Cond.selects RX6 yX6_between yX6_between, Cond.code yX6_between cX6_between 4 (some .int), Cond.methodLink RX6 96 yX6_wonByEven, Cond.instanceMethod yX6_wonByEven, Cond.selects RX6 yX6_wonByEven yX6_wonByEven, Cond.code yX6_wonByEven cX6_wonByEven 1 (some .int), Cond.methodLink RX6 89 yX6_looksAtAll, Cond.instanceMethod yX6_looksAtAll]
def wsX6_wonWith_r2 : List Cond := [Cond.selects RX6 yX6_looksAtAll yX6_looksAtAll, Cond.code yX6_looksAtAll cX6_looksAtAll 2 none, Cond.fieldLink RX6 36 "ParityGameModel" "live" "[I", Cond.methodLink RX6 92 yX6_solved, Cond.instanceMethod yX6_solved, Cond.selects RX6 yX6_solved yX6_solved, Cond.code yX6_solved cX6_solved 4 (some .int), Cond.fieldLink RX6 42 "ParityGameModel" "measure" "[I", Cond.fieldLink RX6 75 "ParityGameModel" "top" "I", Cond.methodLink RX6 82 yX6_weighs, Cond.instanceMethod yX6_weighs, Cond.selects RX6 yX6_weighs yX6_weighs, Cond.code yX6_weighs cX6_weighs 5 none, Cond.fieldLink RX6 39 "ParityGameModel" "weight" "[I", Cond.methodLink RX6 85 yX6_lifted, Cond.instanceMethod yX6_lifted, Cond.selects RX6 yX6_lifted yX6_lifted, Cond.code yX6_lifted cX6_lifted 6 (some .int), Cond.methodLink RX6 78 yX6_over, Cond.instanceMethod yX6_over, Cond.selects RX6 yX6_over yX6_over, Cond.code yX6_over cX6_over 4 (some .int), Cond.methodLink RX6 203 yX6_told, Cond.instanceMethod yX6_told]
def wsX6_wonWith_r3 : List Cond := [Cond.selects RX6 yX6_told yX6_told, Cond.code yX6_told cX6_told 2 (some .int), Cond.methodLink RX6 58 yX6_leads, Cond.instanceMethod yX6_leads, Cond.selects RX6 yX6_leads yX6_leads, Cond.code yX6_leads cX6_leads 3 none]
def wsX6_wonWith : List Cond := .code yX6_wonWith cX6_wonWith 4 (some .int) :: ((wsX6_wonWith_r1 ++ (wsX6_wonWith_r2 ++ wsX6_wonWith_r3)) ++ wsX60)
def wsX6_leastCall_r1 : List Cond := [Cond.fieldLink RX6 13 "ParityGameModel" "now" "[I", Cond.methodLink RX6 173 yX6_isPlace, Cond.instanceMethod yX6_isPlace, Cond.selects RX6 yX6_isPlace yX6_isPlace, Cond.initialized RX6, Cond.code yX6_isPlace cX6_isPlace 2 (some .boolean), Cond.methodLink RX6 68 yX6_in, Cond.static yX6_in, Cond.code yX6_in cX6_in 3 (some .boolean), Cond.methodLink RX6 197 yX6_refuse, Cond.instanceMethod yX6_refuse, Cond.selects RX6 yX6_refuse yX6_refuse, Cond.code yX6_refuse cX6_refuse 2 (some .int), Cond.fieldLink RX6 65 "ParityGameModel" "thrown" "I", Cond.methodLink RX6 227 yX6_winner, Cond.instanceMethod yX6_winner, Cond.selects RX6 yX6_winner yX6_winner, Cond.code yX6_winner cX6_winner 2 (some .int), Cond.methodLink RX6 96 yX6_wonByEven, Cond.instanceMethod yX6_wonByEven, Cond.selects RX6 yX6_wonByEven yX6_wonByEven, Cond.code yX6_wonByEven cX6_wonByEven 1 (some .int), Cond.methodLink RX6 89 yX6_looksAtAll, Cond.instanceMethod yX6_looksAtAll]
def wsX6_leastCall_r2 : List Cond := [Cond.selects RX6 yX6_looksAtAll yX6_looksAtAll, Cond.code yX6_looksAtAll cX6_looksAtAll 2 none, Cond.fieldLink RX6 36 "ParityGameModel" "live" "[I", Cond.methodLink RX6 92 yX6_solved, Cond.instanceMethod yX6_solved, Cond.selects RX6 yX6_solved yX6_solved, Cond.code yX6_solved cX6_solved 4 (some .int), Cond.fieldLink RX6 42 "ParityGameModel" "measure" "[I", Cond.fieldLink RX6 75 "ParityGameModel" "top" "I", Cond.methodLink RX6 82 yX6_weighs, Cond.instanceMethod yX6_weighs, Cond.selects RX6 yX6_weighs yX6_weighs, Cond.code yX6_weighs cX6_weighs 5 none, Cond.fieldLink RX6 39 "ParityGameModel" "weight" "[I", Cond.methodLink RX6 85 yX6_lifted, Cond.instanceMethod yX6_lifted, Cond.selects RX6 yX6_lifted yX6_lifted, Cond.code yX6_lifted cX6_lifted 6 (some .int), Cond.methodLink RX6 78 yX6_over, Cond.instanceMethod yX6_over, Cond.selects RX6 yX6_over yX6_over, Cond.code yX6_over cX6_over 4 (some .int), Cond.methodLink RX6 102 yX6_has, Cond.static yX6_has]
def wsX6_leastCall_r3 : List Cond := [Cond.code yX6_has cX6_has 2 (some .boolean), Cond.methodLink RX6 203 yX6_told, Cond.instanceMethod yX6_told, Cond.selects RX6 yX6_told yX6_told, Cond.code yX6_told cX6_told 2 (some .int)]
def wsX6_leastCall : List Cond := .code yX6_leastCall cX6_leastCall 7 (some .int) :: ((wsX6_leastCall_r1 ++ (wsX6_leastCall_r2 ++ wsX6_leastCall_r3)) ++ wsX60)
def wsX6_neededMoves_r1 : List Cond := [Cond.fieldLink RX6 13 "ParityGameModel" "now" "[I", Cond.methodLink RX6 96 yX6_wonByEven, Cond.instanceMethod yX6_wonByEven, Cond.selects RX6 yX6_wonByEven yX6_wonByEven, Cond.initialized RX6, Cond.code yX6_wonByEven cX6_wonByEven 1 (some .int), Cond.methodLink RX6 89 yX6_looksAtAll, Cond.instanceMethod yX6_looksAtAll, Cond.selects RX6 yX6_looksAtAll yX6_looksAtAll, Cond.code yX6_looksAtAll cX6_looksAtAll 2 none, Cond.fieldLink RX6 36 "ParityGameModel" "live" "[I", Cond.methodLink RX6 92 yX6_solved, Cond.instanceMethod yX6_solved, Cond.selects RX6 yX6_solved yX6_solved, Cond.code yX6_solved cX6_solved 4 (some .int), Cond.fieldLink RX6 42 "ParityGameModel" "measure" "[I", Cond.fieldLink RX6 75 "ParityGameModel" "top" "I", Cond.methodLink RX6 82 yX6_weighs, Cond.instanceMethod yX6_weighs, Cond.selects RX6 yX6_weighs yX6_weighs, Cond.code yX6_weighs cX6_weighs 5 none, Cond.fieldLink RX6 39 "ParityGameModel" "weight" "[I", Cond.methodLink RX6 85 yX6_lifted, Cond.instanceMethod yX6_lifted]
def wsX6_neededMoves_r2 : List Cond := [Cond.selects RX6 yX6_lifted yX6_lifted, Cond.code yX6_lifted cX6_lifted 6 (some .int), Cond.methodLink RX6 78 yX6_over, Cond.instanceMethod yX6_over, Cond.selects RX6 yX6_over yX6_over, Cond.code yX6_over cX6_over 4 (some .int), Cond.methodLink RX6 267 yX6_wonBut, Cond.instanceMethod yX6_wonBut, Cond.selects RX6 yX6_wonBut yX6_wonBut, Cond.code yX6_wonBut cX6_wonBut 2 (some .int), Cond.methodLink RX6 203 yX6_told, Cond.instanceMethod yX6_told, Cond.selects RX6 yX6_told yX6_told, Cond.code yX6_told cX6_told 2 (some .int), Cond.fieldLink RX6 65 "ParityGameModel" "thrown" "I"]
def wsX6_neededMoves : List Cond := .code yX6_neededMoves cX6_neededMoves 4 (some .int) :: ((wsX6_neededMoves_r1 ++ wsX6_neededMoves_r2) ++ wsX60)
def wsX6_keyPlace_r1 : List Cond := [Cond.fieldLink RX6 13 "ParityGameModel" "now" "[I", Cond.methodLink RX6 96 yX6_wonByEven, Cond.instanceMethod yX6_wonByEven, Cond.selects RX6 yX6_wonByEven yX6_wonByEven, Cond.initialized RX6, Cond.code yX6_wonByEven cX6_wonByEven 1 (some .int), Cond.methodLink RX6 89 yX6_looksAtAll, Cond.instanceMethod yX6_looksAtAll, Cond.selects RX6 yX6_looksAtAll yX6_looksAtAll, Cond.code yX6_looksAtAll cX6_looksAtAll 2 none, Cond.fieldLink RX6 36 "ParityGameModel" "live" "[I", Cond.methodLink RX6 92 yX6_solved, Cond.instanceMethod yX6_solved, Cond.selects RX6 yX6_solved yX6_solved, Cond.code yX6_solved cX6_solved 4 (some .int), Cond.fieldLink RX6 42 "ParityGameModel" "measure" "[I", Cond.fieldLink RX6 75 "ParityGameModel" "top" "I", Cond.methodLink RX6 82 yX6_weighs, Cond.instanceMethod yX6_weighs, Cond.selects RX6 yX6_weighs yX6_weighs, Cond.code yX6_weighs cX6_weighs 5 none, Cond.fieldLink RX6 39 "ParityGameModel" "weight" "[I", Cond.methodLink RX6 85 yX6_lifted, Cond.instanceMethod yX6_lifted]
def wsX6_keyPlace_r2 : List Cond := [Cond.selects RX6 yX6_lifted yX6_lifted, Cond.code yX6_lifted cX6_lifted 6 (some .int), Cond.methodLink RX6 78 yX6_over, Cond.instanceMethod yX6_over, Cond.selects RX6 yX6_over yX6_over, Cond.code yX6_over cX6_over 4 (some .int), Cond.methodLink RX6 264 yX6_wonOther, Cond.instanceMethod yX6_wonOther, Cond.selects RX6 yX6_wonOther yX6_wonOther, Cond.code yX6_wonOther cX6_wonOther 3 (some .int), Cond.methodLink RX6 236 yX6_many, Cond.static yX6_many, Cond.code yX6_many cX6_many 3 (some .int), Cond.methodLink RX6 203 yX6_told, Cond.instanceMethod yX6_told, Cond.selects RX6 yX6_told yX6_told, Cond.code yX6_told cX6_told 2 (some .int), Cond.fieldLink RX6 65 "ParityGameModel" "thrown" "I"]
def wsX6_keyPlace : List Cond := .code yX6_keyPlace cX6_keyPlace 6 (some .int) :: ((wsX6_keyPlace_r1 ++ wsX6_keyPlace_r2) ++ wsX60)
def wsX6_addPlace : List Cond := .code yX6_addPlace cX6_addPlace 3 (some .int) :: ([.fieldLink RX6 13 "ParityGameModel" "now" "[I", .methodLink RX6 68 yX6_in, .static yX6_in, .initialized RX6, .code yX6_in cX6_in 3 (some .boolean), .methodLink RX6 197 yX6_refuse, .instanceMethod yX6_refuse, .selects RX6 yX6_refuse yX6_refuse, .code yX6_refuse cX6_refuse 2 (some .int), .fieldLink RX6 65 "ParityGameModel" "thrown" "I", .methodLink RX6 270 yX6_remembers, .instanceMethod yX6_remembers, .selects RX6 yX6_remembers yX6_remembers, .code yX6_remembers cX6_remembers 2 none, .fieldLink RX6 136 "ParityGameModel" "oldMany" "I", .fieldLink RX6 19 "ParityGameModel" "old" "[I", .methodLink RX6 54 yX6_joins, .instanceMethod yX6_joins, .selects RX6 yX6_joins yX6_joins, .code yX6_joins cX6_joins 3 none, .methodLink RX6 203 yX6_told, .instanceMethod yX6_told, .selects RX6 yX6_told yX6_told, .code yX6_told cX6_told 2 (some .int)] ++ wsX60)
def wsX6_drops : List Cond := .code yX6_drops cX6_drops 3 none :: ([.fieldLink RX6 13 "ParityGameModel" "now" "[I"] ++ wsX60)
def wsX6_removePlace_r1 : List Cond := [Cond.fieldLink RX6 13 "ParityGameModel" "now" "[I", Cond.methodLink RX6 173 yX6_isPlace, Cond.instanceMethod yX6_isPlace, Cond.selects RX6 yX6_isPlace yX6_isPlace, Cond.initialized RX6, Cond.code yX6_isPlace cX6_isPlace 2 (some .boolean), Cond.methodLink RX6 68 yX6_in, Cond.static yX6_in, Cond.code yX6_in cX6_in 3 (some .boolean), Cond.methodLink RX6 197 yX6_refuse, Cond.instanceMethod yX6_refuse, Cond.selects RX6 yX6_refuse yX6_refuse, Cond.code yX6_refuse cX6_refuse 2 (some .int), Cond.fieldLink RX6 65 "ParityGameModel" "thrown" "I", Cond.methodLink RX6 270 yX6_remembers, Cond.instanceMethod yX6_remembers, Cond.selects RX6 yX6_remembers yX6_remembers, Cond.code yX6_remembers cX6_remembers 2 none, Cond.fieldLink RX6 136 "ParityGameModel" "oldMany" "I", Cond.fieldLink RX6 19 "ParityGameModel" "old" "[I", Cond.methodLink RX6 273 yX6_drops, Cond.instanceMethod yX6_drops, Cond.selects RX6 yX6_drops yX6_drops, Cond.code yX6_drops cX6_drops 3 none]
def wsX6_removePlace_r2 : List Cond := [Cond.methodLink RX6 61 yX6_lays, Cond.instanceMethod yX6_lays, Cond.selects RX6 yX6_lays yX6_lays, Cond.code yX6_lays cX6_lays 3 none, Cond.methodLink RX6 72 yX6_hears, Cond.instanceMethod yX6_hears, Cond.selects RX6 yX6_hears yX6_hears, Cond.code yX6_hears cX6_hears 2 none, Cond.methodLink RX6 203 yX6_told, Cond.instanceMethod yX6_told, Cond.selects RX6 yX6_told yX6_told, Cond.code yX6_told cX6_told 2 (some .int)]
def wsX6_removePlace : List Cond := .code yX6_removePlace cX6_removePlace 4 (some .int) :: ((wsX6_removePlace_r1 ++ wsX6_removePlace_r2) ++ wsX60)
def wsX6_sets : List Cond := .code yX6_sets cX6_sets 4 (some .int) :: ([.fieldLink RX6 13 "ParityGameModel" "now" "[I", .methodLink RX6 270 yX6_remembers, .instanceMethod yX6_remembers, .selects RX6 yX6_remembers yX6_remembers, .initialized RX6, .code yX6_remembers cX6_remembers 2 none, .fieldLink RX6 136 "ParityGameModel" "oldMany" "I", .fieldLink RX6 19 "ParityGameModel" "old" "[I", .methodLink RX6 203 yX6_told, .instanceMethod yX6_told, .selects RX6 yX6_told yX6_told, .code yX6_told cX6_told 2 (some .int), .fieldLink RX6 65 "ParityGameModel" "thrown" "I"] ++ wsX60)
def wsX6_setOwner_r1 : List Cond := [Cond.methodLink RX6 173 yX6_isPlace, Cond.instanceMethod yX6_isPlace, Cond.selects RX6 yX6_isPlace yX6_isPlace, Cond.initialized RX6, Cond.code yX6_isPlace cX6_isPlace 2 (some .boolean), Cond.fieldLink RX6 13 "ParityGameModel" "now" "[I", Cond.methodLink RX6 68 yX6_in, Cond.static yX6_in, Cond.code yX6_in cX6_in 3 (some .boolean), Cond.methodLink RX6 197 yX6_refuse, Cond.instanceMethod yX6_refuse, Cond.selects RX6 yX6_refuse yX6_refuse, Cond.code yX6_refuse cX6_refuse 2 (some .int), Cond.fieldLink RX6 65 "ParityGameModel" "thrown" "I", Cond.methodLink RX6 276 yX6_sets, Cond.instanceMethod yX6_sets, Cond.selects RX6 yX6_sets yX6_sets, Cond.code yX6_sets cX6_sets 4 (some .int), Cond.methodLink RX6 270 yX6_remembers, Cond.instanceMethod yX6_remembers, Cond.selects RX6 yX6_remembers yX6_remembers, Cond.code yX6_remembers cX6_remembers 2 none, Cond.fieldLink RX6 136 "ParityGameModel" "oldMany" "I", Cond.fieldLink RX6 19 "ParityGameModel" "old" "[I"]
def wsX6_setOwner_r2 : List Cond := [Cond.methodLink RX6 203 yX6_told, Cond.instanceMethod yX6_told, Cond.selects RX6 yX6_told yX6_told, Cond.code yX6_told cX6_told 2 (some .int)]
def wsX6_setOwner : List Cond := .code yX6_setOwner cX6_setOwner 3 (some .int) :: ((wsX6_setOwner_r1 ++ wsX6_setOwner_r2) ++ wsX60)
def wsX6_setCall_r1 : List Cond := [Cond.methodLink RX6 173 yX6_isPlace, Cond.instanceMethod yX6_isPlace, Cond.selects RX6 yX6_isPlace yX6_isPlace, Cond.initialized RX6, Cond.code yX6_isPlace cX6_isPlace 2 (some .boolean), Cond.fieldLink RX6 13 "ParityGameModel" "now" "[I", Cond.methodLink RX6 68 yX6_in, Cond.static yX6_in, Cond.code yX6_in cX6_in 3 (some .boolean), Cond.methodLink RX6 197 yX6_refuse, Cond.instanceMethod yX6_refuse, Cond.selects RX6 yX6_refuse yX6_refuse, Cond.code yX6_refuse cX6_refuse 2 (some .int), Cond.fieldLink RX6 65 "ParityGameModel" "thrown" "I", Cond.methodLink RX6 276 yX6_sets, Cond.instanceMethod yX6_sets, Cond.selects RX6 yX6_sets yX6_sets, Cond.code yX6_sets cX6_sets 4 (some .int), Cond.methodLink RX6 270 yX6_remembers, Cond.instanceMethod yX6_remembers, Cond.selects RX6 yX6_remembers yX6_remembers, Cond.code yX6_remembers cX6_remembers 2 none, Cond.fieldLink RX6 136 "ParityGameModel" "oldMany" "I", Cond.fieldLink RX6 19 "ParityGameModel" "old" "[I"]
def wsX6_setCall_r2 : List Cond := [Cond.methodLink RX6 203 yX6_told, Cond.instanceMethod yX6_told, Cond.selects RX6 yX6_told yX6_told, Cond.code yX6_told cX6_told 2 (some .int)]
def wsX6_setCall : List Cond := .code yX6_setCall cX6_setCall 3 (some .int) :: ((wsX6_setCall_r1 ++ wsX6_setCall_r2) ++ wsX60)
def wsX6_addMove_r1 : List Cond := [Cond.fieldLink RX6 13 "ParityGameModel" "now" "[I", Cond.methodLink RX6 173 yX6_isPlace, Cond.instanceMethod yX6_isPlace, Cond.selects RX6 yX6_isPlace yX6_isPlace, Cond.initialized RX6, Cond.code yX6_isPlace cX6_isPlace 2 (some .boolean), Cond.methodLink RX6 68 yX6_in, Cond.static yX6_in, Cond.code yX6_in cX6_in 3 (some .boolean), Cond.methodLink RX6 197 yX6_refuse, Cond.instanceMethod yX6_refuse, Cond.selects RX6 yX6_refuse yX6_refuse, Cond.code yX6_refuse cX6_refuse 2 (some .int), Cond.fieldLink RX6 65 "ParityGameModel" "thrown" "I", Cond.methodLink RX6 179 yX6_between, Cond.instanceMethod yX6_between, Cond.selects RX6 yX6_between yX6_between, Cond.code yX6_between cX6_between 4 (some .int), Cond.methodLink RX6 270 yX6_remembers, Cond.instanceMethod yX6_remembers, Cond.selects RX6 yX6_remembers yX6_remembers, Cond.code yX6_remembers cX6_remembers 2 none, Cond.fieldLink RX6 136 "ParityGameModel" "oldMany" "I", Cond.fieldLink RX6 19 "ParityGameModel" "old" "[I"]
def wsX6_addMove_r2 : List Cond := [Cond.methodLink RX6 58 yX6_leads, Cond.instanceMethod yX6_leads, Cond.selects RX6 yX6_leads yX6_leads, Cond.code yX6_leads cX6_leads 3 none, Cond.methodLink RX6 203 yX6_told, Cond.instanceMethod yX6_told, Cond.selects RX6 yX6_told yX6_told, Cond.code yX6_told cX6_told 2 (some .int)]
def wsX6_addMove : List Cond := .code yX6_addMove cX6_addMove 3 (some .int) :: ((wsX6_addMove_r1 ++ wsX6_addMove_r2) ++ wsX60)
def wsX6_removeMove_r1 : List Cond := [Cond.fieldLink RX6 13 "ParityGameModel" "now" "[I", Cond.methodLink RX6 230 yX6_isMove, Cond.instanceMethod yX6_isMove, Cond.selects RX6 yX6_isMove yX6_isMove, Cond.initialized RX6, Cond.code yX6_isMove cX6_isMove 2 (some .boolean), Cond.methodLink RX6 68 yX6_in, Cond.static yX6_in, Cond.code yX6_in cX6_in 3 (some .boolean), Cond.methodLink RX6 197 yX6_refuse, Cond.instanceMethod yX6_refuse, Cond.selects RX6 yX6_refuse yX6_refuse, Cond.code yX6_refuse cX6_refuse 2 (some .int), Cond.fieldLink RX6 65 "ParityGameModel" "thrown" "I", Cond.methodLink RX6 270 yX6_remembers, Cond.instanceMethod yX6_remembers, Cond.selects RX6 yX6_remembers yX6_remembers, Cond.code yX6_remembers cX6_remembers 2 none, Cond.fieldLink RX6 136 "ParityGameModel" "oldMany" "I", Cond.fieldLink RX6 19 "ParityGameModel" "old" "[I", Cond.methodLink RX6 273 yX6_drops, Cond.instanceMethod yX6_drops, Cond.selects RX6 yX6_drops yX6_drops, Cond.code yX6_drops cX6_drops 3 none]
def wsX6_removeMove_r2 : List Cond := [Cond.methodLink RX6 203 yX6_told, Cond.instanceMethod yX6_told, Cond.selects RX6 yX6_told yX6_told, Cond.code yX6_told cX6_told 2 (some .int)]
def wsX6_removeMove : List Cond := .code yX6_removeMove cX6_removeMove 2 (some .int) :: ((wsX6_removeMove_r1 ++ wsX6_removeMove_r2) ++ wsX60)
def wsX6_preferMove : List Cond := .code yX6_preferMove cX6_preferMove 5 (some .int) :: ([.fieldLink RX6 13 "ParityGameModel" "now" "[I", .methodLink RX6 230 yX6_isMove, .instanceMethod yX6_isMove, .selects RX6 yX6_isMove yX6_isMove, .initialized RX6, .code yX6_isMove cX6_isMove 2 (some .boolean), .methodLink RX6 68 yX6_in, .static yX6_in, .code yX6_in cX6_in 3 (some .boolean), .methodLink RX6 197 yX6_refuse, .instanceMethod yX6_refuse, .selects RX6 yX6_refuse yX6_refuse, .code yX6_refuse cX6_refuse 2 (some .int), .fieldLink RX6 65 "ParityGameModel" "thrown" "I", .methodLink RX6 270 yX6_remembers, .instanceMethod yX6_remembers, .selects RX6 yX6_remembers yX6_remembers, .code yX6_remembers cX6_remembers 2 none, .fieldLink RX6 136 "ParityGameModel" "oldMany" "I", .fieldLink RX6 19 "ParityGameModel" "old" "[I", .methodLink RX6 203 yX6_told, .instanceMethod yX6_told, .selects RX6 yX6_told yX6_told, .code yX6_told cX6_told 2 (some .int)] ++ wsX60)
def wsX6_exchange_r1 : List Cond := [Cond.fieldLink RX6 13 "ParityGameModel" "now" "[I", Cond.methodLink RX6 221 yX6_greatestCall, Cond.instanceMethod yX6_greatestCall, Cond.selects RX6 yX6_greatestCall yX6_greatestCall, Cond.initialized RX6, Cond.code yX6_greatestCall cX6_greatestCall 3 (some .int), Cond.methodLink RX6 197 yX6_refuse, Cond.instanceMethod yX6_refuse, Cond.selects RX6 yX6_refuse yX6_refuse, Cond.code yX6_refuse cX6_refuse 2 (some .int), Cond.fieldLink RX6 65 "ParityGameModel" "thrown" "I", Cond.methodLink RX6 270 yX6_remembers, Cond.instanceMethod yX6_remembers, Cond.selects RX6 yX6_remembers yX6_remembers, Cond.code yX6_remembers cX6_remembers 2 none, Cond.fieldLink RX6 136 "ParityGameModel" "oldMany" "I", Cond.fieldLink RX6 19 "ParityGameModel" "old" "[I", Cond.methodLink RX6 61 yX6_lays, Cond.instanceMethod yX6_lays, Cond.selects RX6 yX6_lays yX6_lays, Cond.code yX6_lays cX6_lays 3 none, Cond.methodLink RX6 72 yX6_hears, Cond.instanceMethod yX6_hears, Cond.selects RX6 yX6_hears yX6_hears]
def wsX6_exchange_r2 : List Cond := [Cond.code yX6_hears cX6_hears 2 none, Cond.methodLink RX6 203 yX6_told, Cond.instanceMethod yX6_told, Cond.selects RX6 yX6_told yX6_told, Cond.code yX6_told cX6_told 2 (some .int)]
def wsX6_exchange : List Cond := .code yX6_exchange cX6_exchange 2 (some .int) :: ((wsX6_exchange_r1 ++ wsX6_exchange_r2) ++ wsX60)
def wsX6_lay_r1 : List Cond := [Cond.methodLink RX6 173 yX6_isPlace, Cond.instanceMethod yX6_isPlace, Cond.selects RX6 yX6_isPlace yX6_isPlace, Cond.initialized RX6, Cond.code yX6_isPlace cX6_isPlace 2 (some .boolean), Cond.fieldLink RX6 13 "ParityGameModel" "now" "[I", Cond.methodLink RX6 68 yX6_in, Cond.static yX6_in, Cond.code yX6_in cX6_in 3 (some .boolean), Cond.methodLink RX6 197 yX6_refuse, Cond.instanceMethod yX6_refuse, Cond.selects RX6 yX6_refuse yX6_refuse, Cond.code yX6_refuse cX6_refuse 2 (some .int), Cond.fieldLink RX6 65 "ParityGameModel" "thrown" "I", Cond.methodLink RX6 270 yX6_remembers, Cond.instanceMethod yX6_remembers, Cond.selects RX6 yX6_remembers yX6_remembers, Cond.code yX6_remembers cX6_remembers 2 none, Cond.fieldLink RX6 136 "ParityGameModel" "oldMany" "I", Cond.fieldLink RX6 19 "ParityGameModel" "old" "[I", Cond.methodLink RX6 61 yX6_lays, Cond.instanceMethod yX6_lays, Cond.selects RX6 yX6_lays yX6_lays, Cond.code yX6_lays cX6_lays 3 none]
def wsX6_lay_r2 : List Cond := [Cond.methodLink RX6 72 yX6_hears, Cond.instanceMethod yX6_hears, Cond.selects RX6 yX6_hears yX6_hears, Cond.code yX6_hears cX6_hears 2 none, Cond.methodLink RX6 227 yX6_winner, Cond.instanceMethod yX6_winner, Cond.selects RX6 yX6_winner yX6_winner, Cond.code yX6_winner cX6_winner 2 (some .int), Cond.methodLink RX6 96 yX6_wonByEven, Cond.instanceMethod yX6_wonByEven, Cond.selects RX6 yX6_wonByEven yX6_wonByEven, Cond.code yX6_wonByEven cX6_wonByEven 1 (some .int), Cond.methodLink RX6 89 yX6_looksAtAll, Cond.instanceMethod yX6_looksAtAll, Cond.selects RX6 yX6_looksAtAll yX6_looksAtAll, Cond.code yX6_looksAtAll cX6_looksAtAll 2 none, Cond.fieldLink RX6 36 "ParityGameModel" "live" "[I", Cond.methodLink RX6 92 yX6_solved, Cond.instanceMethod yX6_solved, Cond.selects RX6 yX6_solved yX6_solved, Cond.code yX6_solved cX6_solved 4 (some .int), Cond.fieldLink RX6 42 "ParityGameModel" "measure" "[I", Cond.fieldLink RX6 75 "ParityGameModel" "top" "I", Cond.methodLink RX6 82 yX6_weighs]
def wsX6_lay_r3 : List Cond := [Cond.instanceMethod yX6_weighs, Cond.selects RX6 yX6_weighs yX6_weighs, Cond.code yX6_weighs cX6_weighs 5 none, Cond.fieldLink RX6 39 "ParityGameModel" "weight" "[I", Cond.methodLink RX6 85 yX6_lifted, Cond.instanceMethod yX6_lifted, Cond.selects RX6 yX6_lifted yX6_lifted, Cond.code yX6_lifted cX6_lifted 6 (some .int), Cond.methodLink RX6 78 yX6_over, Cond.instanceMethod yX6_over, Cond.selects RX6 yX6_over yX6_over, Cond.code yX6_over cX6_over 4 (some .int), Cond.methodLink RX6 102 yX6_has, Cond.static yX6_has, Cond.code yX6_has cX6_has 2 (some .boolean), Cond.methodLink RX6 203 yX6_told, Cond.instanceMethod yX6_told, Cond.selects RX6 yX6_told yX6_told, Cond.code yX6_told cX6_told 2 (some .int)]
def wsX6_lay : List Cond := .code yX6_lay cX6_lay 2 (some .int) :: ((wsX6_lay_r1 ++ (wsX6_lay_r2 ++ wsX6_lay_r3)) ++ wsX60)
def wsX6_goes : List Cond := .code yX6_goes cX6_goes 2 none :: ([.fieldLink RX6 13 "ParityGameModel" "now" "[I", .methodLink RX6 72 yX6_hears, .instanceMethod yX6_hears, .selects RX6 yX6_hears yX6_hears, .initialized RX6, .code yX6_hears cX6_hears 2 none] ++ wsX60)
def wsX6_go_r1 : List Cond := [Cond.fieldLink RX6 13 "ParityGameModel" "now" "[I", Cond.methodLink RX6 230 yX6_isMove, Cond.instanceMethod yX6_isMove, Cond.selects RX6 yX6_isMove yX6_isMove, Cond.initialized RX6, Cond.code yX6_isMove cX6_isMove 2 (some .boolean), Cond.methodLink RX6 68 yX6_in, Cond.static yX6_in, Cond.code yX6_in cX6_in 3 (some .boolean), Cond.methodLink RX6 197 yX6_refuse, Cond.instanceMethod yX6_refuse, Cond.selects RX6 yX6_refuse yX6_refuse, Cond.code yX6_refuse cX6_refuse 2 (some .int), Cond.fieldLink RX6 65 "ParityGameModel" "thrown" "I", Cond.methodLink RX6 270 yX6_remembers, Cond.instanceMethod yX6_remembers, Cond.selects RX6 yX6_remembers yX6_remembers, Cond.code yX6_remembers cX6_remembers 2 none, Cond.fieldLink RX6 136 "ParityGameModel" "oldMany" "I", Cond.fieldLink RX6 19 "ParityGameModel" "old" "[I", Cond.methodLink RX6 279 yX6_goes, Cond.instanceMethod yX6_goes, Cond.selects RX6 yX6_goes yX6_goes, Cond.code yX6_goes cX6_goes 2 none]
def wsX6_go_r2 : List Cond := [Cond.methodLink RX6 72 yX6_hears, Cond.instanceMethod yX6_hears, Cond.selects RX6 yX6_hears yX6_hears, Cond.code yX6_hears cX6_hears 2 none, Cond.methodLink RX6 203 yX6_told, Cond.instanceMethod yX6_told, Cond.selects RX6 yX6_told yX6_told, Cond.code yX6_told cX6_told 2 (some .int)]
def wsX6_go : List Cond := .code yX6_go cX6_go 2 (some .int) :: ((wsX6_go_r1 ++ wsX6_go_r2) ++ wsX60)
def wsX6_run_r1 : List Cond := [Cond.fieldLink RX6 45 "ParityGameModel" "planned" "[I", Cond.fieldLink RX6 13 "ParityGameModel" "now" "[I", Cond.methodLink RX6 68 yX6_in, Cond.static yX6_in, Cond.initialized RX6, Cond.code yX6_in cX6_in 3 (some .boolean), Cond.methodLink RX6 197 yX6_refuse, Cond.instanceMethod yX6_refuse, Cond.selects RX6 yX6_refuse yX6_refuse, Cond.code yX6_refuse cX6_refuse 2 (some .int), Cond.fieldLink RX6 65 "ParityGameModel" "thrown" "I", Cond.methodLink RX6 270 yX6_remembers, Cond.instanceMethod yX6_remembers, Cond.selects RX6 yX6_remembers yX6_remembers, Cond.code yX6_remembers cX6_remembers 2 none, Cond.fieldLink RX6 136 "ParityGameModel" "oldMany" "I", Cond.fieldLink RX6 19 "ParityGameModel" "old" "[I", Cond.methodLink RX6 249 yX6_plans, Cond.instanceMethod yX6_plans, Cond.selects RX6 yX6_plans yX6_plans, Cond.code yX6_plans cX6_plans 3 none, Cond.methodLink RX6 96 yX6_wonByEven, Cond.instanceMethod yX6_wonByEven, Cond.selects RX6 yX6_wonByEven yX6_wonByEven]
def wsX6_run_r2 : List Cond := [Cond.code yX6_wonByEven cX6_wonByEven 1 (some .int), Cond.methodLink RX6 89 yX6_looksAtAll, Cond.instanceMethod yX6_looksAtAll, Cond.selects RX6 yX6_looksAtAll yX6_looksAtAll, Cond.code yX6_looksAtAll cX6_looksAtAll 2 none, Cond.fieldLink RX6 36 "ParityGameModel" "live" "[I", Cond.methodLink RX6 92 yX6_solved, Cond.instanceMethod yX6_solved, Cond.selects RX6 yX6_solved yX6_solved, Cond.code yX6_solved cX6_solved 4 (some .int), Cond.fieldLink RX6 42 "ParityGameModel" "measure" "[I", Cond.fieldLink RX6 75 "ParityGameModel" "top" "I", Cond.methodLink RX6 82 yX6_weighs, Cond.instanceMethod yX6_weighs, Cond.selects RX6 yX6_weighs yX6_weighs, Cond.code yX6_weighs cX6_weighs 5 none, Cond.fieldLink RX6 39 "ParityGameModel" "weight" "[I", Cond.methodLink RX6 85 yX6_lifted, Cond.instanceMethod yX6_lifted, Cond.selects RX6 yX6_lifted yX6_lifted, Cond.code yX6_lifted cX6_lifted 6 (some .int), Cond.methodLink RX6 78 yX6_over, Cond.instanceMethod yX6_over, Cond.selects RX6 yX6_over yX6_over]
def wsX6_run_r3 : List Cond := [Cond.code yX6_over cX6_over 4 (some .int), Cond.methodLink RX6 109 yX6_firstMove, Cond.instanceMethod yX6_firstMove, Cond.selects RX6 yX6_firstMove yX6_firstMove, Cond.code yX6_firstMove cX6_firstMove 3 (some .int), Cond.methodLink RX6 112 yX6_plansFor, Cond.instanceMethod yX6_plansFor, Cond.selects RX6 yX6_plansFor yX6_plansFor, Cond.code yX6_plansFor cX6_plansFor 8 none, Cond.methodLink RX6 102 yX6_has, Cond.static yX6_has, Cond.code yX6_has cX6_has 2 (some .boolean), Cond.methodLink RX6 106 yX6_only, Cond.instanceMethod yX6_only, Cond.selects RX6 yX6_only yX6_only, Cond.code yX6_only cX6_only 4 none, Cond.methodLink RX6 99 yX6_all, Cond.instanceMethod yX6_all, Cond.selects RX6 yX6_all yX6_all, Cond.code yX6_all cX6_all 1 (some .int), Cond.methodLink RX6 279 yX6_goes, Cond.instanceMethod yX6_goes, Cond.selects RX6 yX6_goes yX6_goes, Cond.code yX6_goes cX6_goes 2 none]
def wsX6_run_r4 : List Cond := [Cond.methodLink RX6 72 yX6_hears, Cond.instanceMethod yX6_hears, Cond.selects RX6 yX6_hears yX6_hears, Cond.code yX6_hears cX6_hears 2 none, Cond.methodLink RX6 203 yX6_told, Cond.instanceMethod yX6_told, Cond.selects RX6 yX6_told yX6_told, Cond.code yX6_told cX6_told 2 (some .int)]
def wsX6_run : List Cond := .code yX6_run cX6_run 3 (some .int) :: ((wsX6_run_r1 ++ (wsX6_run_r2 ++ (wsX6_run_r3 ++ wsX6_run_r4))) ++ wsX60)
def wsX6_restore : List Cond := .code yX6_restore cX6_restore 3 (some .int) :: ([.fieldLink RX6 218 "ParityGameModel" "savedSet" "I", .fieldLink RX6 13 "ParityGameModel" "now" "[I", .fieldLink RX6 22 "ParityGameModel" "saved" "[I", .methodLink RX6 68 yX6_in, .static yX6_in, .initialized RX6, .code yX6_in cX6_in 3 (some .boolean), .methodLink RX6 197 yX6_refuse, .instanceMethod yX6_refuse, .selects RX6 yX6_refuse yX6_refuse, .code yX6_refuse cX6_refuse 2 (some .int), .fieldLink RX6 65 "ParityGameModel" "thrown" "I", .methodLink RX6 270 yX6_remembers, .instanceMethod yX6_remembers, .selects RX6 yX6_remembers yX6_remembers, .code yX6_remembers cX6_remembers 2 none, .fieldLink RX6 136 "ParityGameModel" "oldMany" "I", .fieldLink RX6 19 "ParityGameModel" "old" "[I", .methodLink RX6 203 yX6_told, .instanceMethod yX6_told, .selects RX6 yX6_told yX6_told, .code yX6_told cX6_told 2 (some .int)] ++ wsX60)
def wsX6_undo : List Cond := .code yX6_undo cX6_undo 2 (some .int) :: ([.fieldLink RX6 136 "ParityGameModel" "oldMany" "I", .fieldLink RX6 13 "ParityGameModel" "now" "[I", .fieldLink RX6 19 "ParityGameModel" "old" "[I", .methodLink RX6 197 yX6_refuse, .instanceMethod yX6_refuse, .selects RX6 yX6_refuse yX6_refuse, .initialized RX6, .code yX6_refuse cX6_refuse 2 (some .int), .fieldLink RX6 65 "ParityGameModel" "thrown" "I", .methodLink RX6 203 yX6_told, .instanceMethod yX6_told, .selects RX6 yX6_told yX6_told, .code yX6_told cX6_told 2 (some .int)] ++ wsX60)
def wsX6_save : List Cond := .code yX6_save cX6_save 3 (some .int) :: ([.fieldLink RX6 22 "ParityGameModel" "saved" "[I", .fieldLink RX6 13 "ParityGameModel" "now" "[I", .fieldLink RX6 218 "ParityGameModel" "savedSet" "I", .methodLink RX6 68 yX6_in, .static yX6_in, .initialized RX6, .code yX6_in cX6_in 3 (some .boolean), .methodLink RX6 197 yX6_refuse, .instanceMethod yX6_refuse, .selects RX6 yX6_refuse yX6_refuse, .code yX6_refuse cX6_refuse 2 (some .int), .fieldLink RX6 65 "ParityGameModel" "thrown" "I", .methodLink RX6 203 yX6_told, .instanceMethod yX6_told, .selects RX6 yX6_told yX6_told, .code yX6_told cX6_told 2 (some .int)] ++ wsX60)
def wsX6_writes : List Cond := .code yX6_writes cX6_writes 2 none :: ([.fieldLink RX6 29 "ParityGameModel" "output" "[B", .fieldLink RX6 282 "ParityGameModel" "outputMany" "I"] ++ wsX60)
def wsX6_writePlaces_r1 : List Cond := [Cond.fieldLink RX6 282 "ParityGameModel" "outputMany" "I", Cond.fieldLink RX6 13 "ParityGameModel" "now" "[I", Cond.fieldLink RX6 45 "ParityGameModel" "planned" "[I", Cond.methodLink RX6 249 yX6_plans, Cond.instanceMethod yX6_plans, Cond.selects RX6 yX6_plans yX6_plans, Cond.initialized RX6, Cond.code yX6_plans cX6_plans 3 none, Cond.methodLink RX6 96 yX6_wonByEven, Cond.instanceMethod yX6_wonByEven, Cond.selects RX6 yX6_wonByEven yX6_wonByEven, Cond.code yX6_wonByEven cX6_wonByEven 1 (some .int), Cond.methodLink RX6 89 yX6_looksAtAll, Cond.instanceMethod yX6_looksAtAll, Cond.selects RX6 yX6_looksAtAll yX6_looksAtAll, Cond.code yX6_looksAtAll cX6_looksAtAll 2 none, Cond.fieldLink RX6 36 "ParityGameModel" "live" "[I", Cond.methodLink RX6 92 yX6_solved, Cond.instanceMethod yX6_solved, Cond.selects RX6 yX6_solved yX6_solved, Cond.code yX6_solved cX6_solved 4 (some .int), Cond.fieldLink RX6 42 "ParityGameModel" "measure" "[I", Cond.fieldLink RX6 75 "ParityGameModel" "top" "I", Cond.methodLink RX6 82 yX6_weighs]
def wsX6_writePlaces_r2 : List Cond := [Cond.instanceMethod yX6_weighs, Cond.selects RX6 yX6_weighs yX6_weighs, Cond.code yX6_weighs cX6_weighs 5 none, Cond.fieldLink RX6 39 "ParityGameModel" "weight" "[I", Cond.methodLink RX6 85 yX6_lifted, Cond.instanceMethod yX6_lifted, Cond.selects RX6 yX6_lifted yX6_lifted, Cond.code yX6_lifted cX6_lifted 6 (some .int), Cond.methodLink RX6 78 yX6_over, Cond.instanceMethod yX6_over, Cond.selects RX6 yX6_over yX6_over, Cond.code yX6_over cX6_over 4 (some .int), Cond.methodLink RX6 109 yX6_firstMove, Cond.instanceMethod yX6_firstMove, Cond.selects RX6 yX6_firstMove yX6_firstMove, Cond.code yX6_firstMove cX6_firstMove 3 (some .int), Cond.methodLink RX6 112 yX6_plansFor, Cond.instanceMethod yX6_plansFor, Cond.selects RX6 yX6_plansFor yX6_plansFor, Cond.code yX6_plansFor cX6_plansFor 8 none, Cond.methodLink RX6 102 yX6_has, Cond.static yX6_has, Cond.code yX6_has cX6_has 2 (some .boolean), Cond.methodLink RX6 106 yX6_only]
def wsX6_writePlaces_r3 : List Cond := [Cond.instanceMethod yX6_only, Cond.selects RX6 yX6_only yX6_only, Cond.code yX6_only cX6_only 4 none, Cond.methodLink RX6 99 yX6_all, Cond.instanceMethod yX6_all, Cond.selects RX6 yX6_all yX6_all, Cond.code yX6_all cX6_all 1 (some .int), Cond.methodLink RX6 285 yX6_writes, Cond.instanceMethod yX6_writes, Cond.selects RX6 yX6_writes yX6_writes, Cond.code yX6_writes cX6_writes 2 none, Cond.fieldLink RX6 29 "ParityGameModel" "output" "[B", Cond.methodLink RX6 203 yX6_told, Cond.instanceMethod yX6_told, Cond.selects RX6 yX6_told yX6_told, Cond.code yX6_told cX6_told 2 (some .int), Cond.fieldLink RX6 65 "ParityGameModel" "thrown" "I"]
def wsX6_writePlaces : List Cond := .code yX6_writePlaces cX6_writePlaces 5 (some .int) :: ((wsX6_writePlaces_r1 ++ (wsX6_writePlaces_r2 ++ wsX6_writePlaces_r3)) ++ wsX60)
def wsX6_outputByte : List Cond := .code yX6_outputByte cX6_outputByte 2 (some .int) :: ([.fieldLink RX6 282 "ParityGameModel" "outputMany" "I", .fieldLink RX6 29 "ParityGameModel" "output" "[B", .methodLink RX6 68 yX6_in, .static yX6_in, .initialized RX6, .code yX6_in cX6_in 3 (some .boolean), .methodLink RX6 197 yX6_refuse, .instanceMethod yX6_refuse, .selects RX6 yX6_refuse yX6_refuse, .code yX6_refuse cX6_refuse 2 (some .int), .fieldLink RX6 65 "ParityGameModel" "thrown" "I", .methodLink RX6 203 yX6_told, .instanceMethod yX6_told, .selects RX6 yX6_told yX6_told, .code yX6_told cX6_told 2 (some .int)] ++ wsX60)
set_option maxRecDepth 20000 in
theorem ggX6_init_X6_joins : GoodIn wsX6_init wsX6_joins := goodIn_r _ [24, 6, 37, 38, 39, 40, 41, 42, 43, 44, 45, 46, 47, 48, 49, 50, 51, 52, 53, 54, 55, 56, 57, 58, 59, 60, 61, 62, 63, 64, 65, 66, 67] (by decide +kernel) (by decide +kernel)
set_option maxRecDepth 20000 in
theorem gX6_init_X6_joins : GoodIn wsX6_init (wsV RX6 54 RX6 yX6_joins wsX6_joins) := goodIn_app (goodIn_of _ (by decide +kernel)) ggX6_init_X6_joins
set_option maxRecDepth 20000 in
theorem ggX6_init_X6_leads : GoodIn wsX6_init wsX6_leads := goodIn_r _ [28, 6, 37, 38, 39, 40, 41, 42, 43, 44, 45, 46, 47, 48, 49, 50, 51, 52, 53, 54, 55, 56, 57, 58, 59, 60, 61, 62, 63, 64, 65, 66, 67] (by decide +kernel) (by decide +kernel)
set_option maxRecDepth 20000 in
theorem gX6_init_X6_leads : GoodIn wsX6_init (wsV RX6 58 RX6 yX6_leads wsX6_leads) := goodIn_app (goodIn_of _ (by decide +kernel)) ggX6_init_X6_leads
set_option maxRecDepth 20000 in
theorem ggX6_init_X6_lays : GoodIn wsX6_init wsX6_lays := goodIn_r _ [32, 6, 33, 34, 35, 23, 36, 37, 38, 39, 40, 41, 42, 43, 44, 45, 46, 47, 48, 49, 50, 51, 52, 53, 54, 55, 56, 57, 58, 59, 60, 61, 62, 63, 64, 65, 66, 67] (by decide +kernel) (by decide +kernel)
set_option maxRecDepth 20000 in
theorem gX6_init_X6_lays : GoodIn wsX6_init (wsV RX6 61 RX6 yX6_lays wsX6_lays) := goodIn_app (goodIn_of _ (by decide +kernel)) ggX6_init_X6_lays
set_option maxRecDepth 20000 in
theorem ggX6_isPlace_X6_in : GoodIn wsX6_isPlace wsX6_in := goodIn_r _ [5] (by decide +kernel) (by decide +kernel)
set_option maxRecDepth 20000 in
theorem gX6_isPlace_X6_in : GoodIn wsX6_isPlace (va_wsS RX6 68 yX6_in wsX6_in) := goodIn_app (goodIn_of _ (by decide +kernel)) ggX6_isPlace_X6_in
set_option maxRecDepth 20000 in
theorem ggX6_isMove_X6_in : GoodIn wsX6_isMove wsX6_in := goodIn_r _ [5] (by decide +kernel) (by decide +kernel)
set_option maxRecDepth 20000 in
theorem gX6_isMove_X6_in : GoodIn wsX6_isMove (va_wsS RX6 68 yX6_in wsX6_in) := goodIn_app (goodIn_of _ (by decide +kernel)) ggX6_isMove_X6_in
set_option maxRecDepth 20000 in
theorem ggX6_lays_X6_hears : GoodIn wsX6_lays wsX6_hears := goodIn_r _ [6, 1, 7, 8, 9, 10, 11, 12, 13, 14, 15, 16, 17, 18, 19, 20, 21, 22, 23, 24, 25, 26, 27, 28, 29, 30, 31, 32, 33, 34, 35, 36, 37] (by decide +kernel) (by decide +kernel)
set_option maxRecDepth 20000 in
theorem gX6_lays_X6_hears : GoodIn wsX6_lays (wsV RX6 72 RX6 yX6_hears wsX6_hears) := goodIn_app (goodIn_of _ (by decide +kernel)) ggX6_lays_X6_hears
set_option maxRecDepth 20000 in
theorem ggX6_lifted_X6_over : GoodIn wsX6_lifted wsX6_over := goodIn_r _ [9, 4, 10, 11, 12, 13, 14, 15, 16, 17, 18, 19, 20, 21, 22, 23, 24, 25, 26, 27, 28, 29, 30, 31, 32, 33, 34, 35, 36, 37, 38, 39, 40, 41] (by decide +kernel) (by decide +kernel)
set_option maxRecDepth 20000 in
theorem gX6_lifted_X6_over : GoodIn wsX6_lifted (wsV RX6 78 RX6 yX6_over wsX6_over) := goodIn_app (goodIn_of _ (by decide +kernel)) ggX6_lifted_X6_over
set_option maxRecDepth 20000 in
theorem ggX6_solved_X6_weighs : GoodIn wsX6_solved wsX6_weighs := goodIn_r _ [8, 9, 1, 3, 19, 20, 21, 22, 23, 24, 25, 26, 27, 28, 29, 30, 31, 32, 33, 34, 35, 36, 37, 38, 39, 40, 41, 42, 43, 44, 45, 46, 47, 48, 49] (by decide +kernel) (by decide +kernel)
set_option maxRecDepth 20000 in
theorem gX6_solved_X6_weighs : GoodIn wsX6_solved (wsV RX6 82 RX6 yX6_weighs wsX6_weighs) := goodIn_app (goodIn_of _ (by decide +kernel)) ggX6_solved_X6_weighs
set_option maxRecDepth 20000 in
theorem ggX6_solved_X6_lifted : GoodIn wsX6_solved wsX6_lifted := goodIn_r _ [13, 1, 14, 2, 3, 15, 16, 17, 7, 18, 9, 19, 20, 21, 22, 23, 24, 25, 26, 27, 28, 29, 30, 31, 32, 33, 34, 35, 36, 37, 38, 39, 40, 41, 42, 43, 44, 45, 46, 47, 48, 49] (by decide +kernel) (by decide +kernel)
set_option maxRecDepth 20000 in
theorem gX6_solved_X6_lifted : GoodIn wsX6_solved (wsV RX6 85 RX6 yX6_lifted wsX6_lifted) := goodIn_app (goodIn_of _ (by decide +kernel)) ggX6_solved_X6_lifted
set_option maxRecDepth 20000 in
theorem ggX6_wonByEven_X6_looksAtAll : GoodIn wsX6_wonByEven wsX6_looksAtAll := goodIn_r _ [5, 6, 7, 27, 28, 29, 30, 31, 32, 33, 34, 35, 36, 37, 38, 39, 40, 41, 42, 43, 44, 45, 46, 47, 48, 49, 50, 51, 52, 53, 54, 55, 56, 57] (by decide +kernel) (by decide +kernel)
set_option maxRecDepth 20000 in
theorem gX6_wonByEven_X6_looksAtAll : GoodIn wsX6_wonByEven (wsV RX6 89 RX6 yX6_looksAtAll wsX6_looksAtAll) := goodIn_app (goodIn_of _ (by decide +kernel)) ggX6_wonByEven_X6_looksAtAll
set_option maxRecDepth 20000 in
theorem ggX6_wonByEven_X6_solved : GoodIn wsX6_wonByEven wsX6_solved := goodIn_r _ [11, 6, 12, 13, 14, 15, 16, 4, 17, 18, 19, 20, 21, 22, 7, 23, 24, 25, 26, 27, 28, 29, 30, 31, 32, 33, 34, 35, 36, 37, 38, 39, 40, 41, 42, 43, 44, 45, 46, 47, 48, 49, 50, 51, 52, 53, 54, 55, 56, 57] (by decide +kernel) (by decide +kernel)
set_option maxRecDepth 20000 in
theorem gX6_wonByEven_X6_solved : GoodIn wsX6_wonByEven (wsV RX6 92 RX6 yX6_solved wsX6_solved) := goodIn_app (goodIn_of _ (by decide +kernel)) ggX6_wonByEven_X6_solved
set_option maxRecDepth 20000 in
theorem ggX6_wonBy_X6_wonByEven : GoodIn wsX6_wonBy wsX6_wonByEven := goodIn_r _ [5, 6, 7, 8, 4, 9, 10, 11, 12, 13, 14, 15, 16, 17, 18, 19, 20, 21, 22, 23, 24, 25, 26, 27, 28, 29, 30, 35, 36, 37, 38, 39, 40, 41, 42, 43, 44, 45, 46, 47, 48, 49, 50, 51, 52, 53, 54, 55, 56, 57, 58, 59, 60, 61, 62, 63, 64, 65] (by decide +kernel) (by decide +kernel)
set_option maxRecDepth 20000 in
theorem gX6_wonBy_X6_wonByEven : GoodIn wsX6_wonBy (wsV RX6 96 RX6 yX6_wonByEven wsX6_wonByEven) := goodIn_app (goodIn_of _ (by decide +kernel)) ggX6_wonBy_X6_wonByEven
set_option maxRecDepth 20000 in
theorem ggX6_wonBy_X6_all : GoodIn wsX6_wonBy wsX6_all := goodIn_r _ [34, 10, 35, 36, 37, 38, 39, 40, 41, 42, 43, 44, 45, 46, 47, 48, 49, 50, 51, 52, 53, 54, 55, 56, 57, 58, 59, 60, 61, 62, 63, 64, 65] (by decide +kernel) (by decide +kernel)
set_option maxRecDepth 20000 in
theorem gX6_wonBy_X6_all : GoodIn wsX6_wonBy (wsV RX6 99 RX6 yX6_all wsX6_all) := goodIn_app (goodIn_of _ (by decide +kernel)) ggX6_wonBy_X6_all
set_option maxRecDepth 20000 in
theorem ggX6_plansFor_X6_looksAtAll : GoodIn wsX6_plansFor wsX6_looksAtAll := goodIn_r _ [7, 1, 8, 39, 40, 41, 42, 43, 44, 45, 46, 47, 48, 49, 50, 51, 52, 53, 54, 55, 56, 57, 58, 59, 60, 61, 62, 63, 64, 65, 66, 67, 68, 69] (by decide +kernel) (by decide +kernel)
set_option maxRecDepth 20000 in
theorem gX6_plansFor_X6_looksAtAll : GoodIn wsX6_plansFor (wsV RX6 89 RX6 yX6_looksAtAll wsX6_looksAtAll) := goodIn_app (goodIn_of _ (by decide +kernel)) ggX6_plansFor_X6_looksAtAll
set_option maxRecDepth 20000 in
theorem ggX6_plansFor_X6_has : GoodIn wsX6_plansFor wsX6_has := goodIn_r _ [11] (by decide +kernel) (by decide +kernel)
set_option maxRecDepth 20000 in
theorem gX6_plansFor_X6_has : GoodIn wsX6_plansFor (va_wsS RX6 102 yX6_has wsX6_has) := goodIn_app (goodIn_of _ (by decide +kernel)) ggX6_plansFor_X6_has
set_option maxRecDepth 20000 in
theorem ggX6_plansFor_X6_only : GoodIn wsX6_plansFor wsX6_only := goodIn_r _ [15, 1, 8, 39, 40, 41, 42, 43, 44, 45, 46, 47, 48, 49, 50, 51, 52, 53, 54, 55, 56, 57, 58, 59, 60, 61, 62, 63, 64, 65, 66, 67, 68, 69] (by decide +kernel) (by decide +kernel)
set_option maxRecDepth 20000 in
theorem gX6_plansFor_X6_only : GoodIn wsX6_plansFor (wsV RX6 106 RX6 yX6_only wsX6_only) := goodIn_app (goodIn_of _ (by decide +kernel)) ggX6_plansFor_X6_only
set_option maxRecDepth 20000 in
theorem ggX6_plansFor_X6_solved : GoodIn wsX6_plansFor wsX6_solved := goodIn_r _ [19, 1, 20, 21, 22, 23, 24, 6, 25, 26, 27, 28, 29, 30, 8, 31, 32, 33, 34, 39, 40, 41, 42, 43, 44, 45, 46, 47, 48, 49, 50, 51, 52, 53, 54, 55, 56, 57, 58, 59, 60, 61, 62, 63, 64, 65, 66, 67, 68, 69] (by decide +kernel) (by decide +kernel)
set_option maxRecDepth 20000 in
theorem gX6_plansFor_X6_solved : GoodIn wsX6_plansFor (wsV RX6 92 RX6 yX6_solved wsX6_solved) := goodIn_app (goodIn_of _ (by decide +kernel)) ggX6_plansFor_X6_solved
set_option maxRecDepth 20000 in
theorem ggX6_plansFor_X6_all : GoodIn wsX6_plansFor wsX6_all := goodIn_r _ [38, 1, 39, 40, 41, 42, 43, 44, 45, 46, 47, 48, 49, 50, 51, 52, 53, 54, 55, 56, 57, 58, 59, 60, 61, 62, 63, 64, 65, 66, 67, 68, 69] (by decide +kernel) (by decide +kernel)
set_option maxRecDepth 20000 in
theorem gX6_plansFor_X6_all : GoodIn wsX6_plansFor (wsV RX6 99 RX6 yX6_all wsX6_all) := goodIn_app (goodIn_of _ (by decide +kernel)) ggX6_plansFor_X6_all
set_option maxRecDepth 20000 in
theorem ggX6_plans_X6_wonByEven : GoodIn wsX6_plans wsX6_wonByEven := goodIn_r _ [7, 8, 9, 10, 6, 11, 1, 12, 13, 14, 15, 16, 17, 18, 19, 20, 21, 22, 23, 24, 25, 26, 27, 28, 29, 30, 31, 51, 52, 53, 54, 55, 56, 57, 58, 59, 60, 61, 62, 63, 64, 65, 66, 67, 68, 69, 70, 71, 72, 73, 74, 75, 76, 77, 78, 79, 80, 81] (by decide +kernel) (by decide +kernel)
set_option maxRecDepth 20000 in
theorem gX6_plans_X6_wonByEven : GoodIn wsX6_plans (wsV RX6 96 RX6 yX6_wonByEven wsX6_wonByEven) := goodIn_app (goodIn_of _ (by decide +kernel)) ggX6_plans_X6_wonByEven
set_option maxRecDepth 20000 in
theorem ggX6_plans_X6_firstMove : GoodIn wsX6_plans wsX6_firstMove := goodIn_r _ [35, 1, 51, 52, 53, 54, 55, 56, 57, 58, 59, 60, 61, 62, 63, 64, 65, 66, 67, 68, 69, 70, 71, 72, 73, 74, 75, 76, 77, 78, 79, 80, 81] (by decide +kernel) (by decide +kernel)
set_option maxRecDepth 20000 in
theorem gX6_plans_X6_firstMove : GoodIn wsX6_plans (wsV RX6 109 RX6 yX6_firstMove wsX6_firstMove) := goodIn_app (goodIn_of _ (by decide +kernel)) ggX6_plans_X6_firstMove
set_option maxRecDepth 20000 in
theorem ggX6_plans_X6_plansFor : GoodIn wsX6_plans wsX6_plansFor := goodIn_r _ [39, 1, 2, 8, 9, 10, 6, 11, 12, 40, 41, 42, 43, 44, 45, 46, 13, 14, 15, 16, 17, 18, 19, 20, 21, 22, 23, 24, 25, 26, 27, 28, 29, 30, 31, 47, 48, 49, 50, 51, 52, 53, 54, 55, 56, 57, 58, 59, 60, 61, 62, 63, 64, 65, 66, 67, 68, 69, 70, 71, 72, 73, 74, 75, 76, 77, 78, 79, 80, 81] (by decide +kernel) (by decide +kernel)
set_option maxRecDepth 20000 in
theorem gX6_plans_X6_plansFor : GoodIn wsX6_plans (wsV RX6 112 RX6 yX6_plansFor wsX6_plansFor) := goodIn_app (goodIn_of _ (by decide +kernel)) ggX6_plans_X6_plansFor
set_option maxRecDepth 20000 in
theorem ggX6_plans_X6_all : GoodIn wsX6_plans wsX6_all := goodIn_r _ [50, 1, 51, 52, 53, 54, 55, 56, 57, 58, 59, 60, 61, 62, 63, 64, 65, 66, 67, 68, 69, 70, 71, 72, 73, 74, 75, 76, 77, 78, 79, 80, 81] (by decide +kernel) (by decide +kernel)
set_option maxRecDepth 20000 in
theorem gX6_plans_X6_all : GoodIn wsX6_plans (wsV RX6 99 RX6 yX6_all wsX6_all) := goodIn_app (goodIn_of _ (by decide +kernel)) ggX6_plans_X6_all
set_option maxRecDepth 20000 in
theorem ggX6_forces_X6_has : GoodIn wsX6_forces wsX6_has := goodIn_r _ [5] (by decide +kernel) (by decide +kernel)
set_option maxRecDepth 20000 in
theorem gX6_forces_X6_has : GoodIn wsX6_forces (va_wsS RX6 102 yX6_has wsX6_has) := goodIn_app (goodIn_of _ (by decide +kernel)) ggX6_forces_X6_has
set_option maxRecDepth 20000 in
theorem ggX6_forcing_X6_forces : GoodIn wsX6_forcing wsX6_forces := goodIn_r _ [6, 1, 7, 8, 5, 9, 10, 11, 12, 13, 14, 15, 16, 17, 18, 19, 20, 21, 22, 23, 24, 25, 26, 27, 28, 29, 30, 31, 32, 33, 34, 35, 36, 37, 38, 39, 40] (by decide +kernel) (by decide +kernel)
set_option maxRecDepth 20000 in
theorem gX6_forcing_X6_forces : GoodIn wsX6_forcing (wsV RX6 124 RX6 yX6_forces wsX6_forces) := goodIn_app (goodIn_of _ (by decide +kernel)) ggX6_forcing_X6_forces
set_option maxRecDepth 20000 in
theorem ggX6_pulls_X6_has : GoodIn wsX6_pulls wsX6_has := goodIn_r _ [6] (by decide +kernel) (by decide +kernel)
set_option maxRecDepth 20000 in
theorem gX6_pulls_X6_has : GoodIn wsX6_pulls (va_wsS RX6 102 yX6_has wsX6_has) := goodIn_app (goodIn_of _ (by decide +kernel)) ggX6_pulls_X6_has
set_option maxRecDepth 20000 in
theorem ggX6_pulls_X6_forcing : GoodIn wsX6_pulls wsX6_forcing := goodIn_r _ [10, 1, 11, 12, 13, 5, 14, 3, 4, 6, 15, 16, 17, 18, 19, 20, 21, 22, 23, 24, 25, 26, 27, 28, 29, 30, 31, 32, 33, 34, 35, 36, 37, 38, 39, 40, 41, 42, 43, 44, 45] (by decide +kernel) (by decide +kernel)
set_option maxRecDepth 20000 in
theorem gX6_pulls_X6_forcing : GoodIn wsX6_pulls (wsV RX6 127 RX6 yX6_forcing wsX6_forcing) := goodIn_app (goodIn_of _ (by decide +kernel)) ggX6_pulls_X6_forcing
set_option maxRecDepth 20000 in
theorem ggX6_leaves_X6_has : GoodIn wsX6_leaves wsX6_has := goodIn_r _ [5] (by decide +kernel) (by decide +kernel)
set_option maxRecDepth 20000 in
theorem gX6_leaves_X6_has : GoodIn wsX6_leaves (va_wsS RX6 102 yX6_has wsX6_has) := goodIn_app (goodIn_of _ (by decide +kernel)) ggX6_leaves_X6_has
set_option maxRecDepth 20000 in
theorem ggX6_stays_X6_has : GoodIn wsX6_stays wsX6_has := goodIn_r _ [5] (by decide +kernel) (by decide +kernel)
set_option maxRecDepth 20000 in
theorem gX6_stays_X6_has : GoodIn wsX6_stays (va_wsS RX6 102 yX6_has wsX6_has) := goodIn_app (goodIn_of _ (by decide +kernel)) ggX6_stays_X6_has
set_option maxRecDepth 20000 in
theorem ggX6_stays_X6_leaves : GoodIn wsX6_stays wsX6_leaves := goodIn_r _ [9, 1, 2, 3, 4, 5, 10, 11, 12, 13, 14, 15, 16, 17, 18, 19, 20, 21, 22, 23, 24, 25, 26, 27, 28, 29, 30, 31, 32, 33, 34, 35, 36, 37, 38, 39, 40] (by decide +kernel) (by decide +kernel)
set_option maxRecDepth 20000 in
theorem gX6_stays_X6_leaves : GoodIn wsX6_stays (wsV RX6 130 RX6 yX6_leaves wsX6_leaves) := goodIn_app (goodIn_of _ (by decide +kernel)) ggX6_stays_X6_leaves
set_option maxRecDepth 20000 in
theorem ggX6_comesBack_X6_all : GoodIn wsX6_comesBack wsX6_all := goodIn_r _ [5, 6, 23, 24, 25, 26, 27, 28, 29, 30, 31, 32, 33, 34, 35, 36, 37, 38, 39, 40, 41, 42, 43, 44, 45, 46, 47, 48, 49, 50, 51, 52, 53] (by decide +kernel) (by decide +kernel)
set_option maxRecDepth 20000 in
theorem gX6_comesBack_X6_all : GoodIn wsX6_comesBack (wsV RX6 99 RX6 yX6_all wsX6_all) := goodIn_app (goodIn_of _ (by decide +kernel)) ggX6_comesBack_X6_all
set_option maxRecDepth 20000 in
theorem ggX6_comesBack_X6_forcing : GoodIn wsX6_comesBack wsX6_forcing := goodIn_r _ [10, 6, 11, 12, 13, 4, 14, 15, 16, 17, 23, 24, 25, 26, 27, 28, 29, 30, 31, 32, 33, 34, 35, 36, 37, 38, 39, 40, 41, 42, 43, 44, 45, 46, 47, 48, 49, 50, 51, 52, 53] (by decide +kernel) (by decide +kernel)
set_option maxRecDepth 20000 in
theorem gX6_comesBack_X6_forcing : GoodIn wsX6_comesBack (wsV RX6 127 RX6 yX6_forcing wsX6_forcing) := goodIn_app (goodIn_of _ (by decide +kernel)) ggX6_comesBack_X6_forcing
set_option maxRecDepth 20000 in
theorem ggX6_comesBack_X6_pulls : GoodIn wsX6_comesBack wsX6_pulls := goodIn_r _ [21, 6, 22, 15, 16, 4, 17, 7, 8, 9, 10, 11, 12, 13, 14, 23, 24, 25, 26, 27, 28, 29, 30, 31, 32, 33, 34, 35, 36, 37, 38, 39, 40, 41, 42, 43, 44, 45, 46, 47, 48, 49, 50, 51, 52, 53] (by decide +kernel) (by decide +kernel)
set_option maxRecDepth 20000 in
theorem gX6_comesBack_X6_pulls : GoodIn wsX6_comesBack (wsV RX6 133 RX6 yX6_pulls wsX6_pulls) := goodIn_app (goodIn_of _ (by decide +kernel)) ggX6_comesBack_X6_pulls
set_option maxRecDepth 20000 in
theorem ggX6_next_X6_isLetter : GoodIn wsX6_next wsX6_isLetter := goodIn_r _ [10] (by decide +kernel) (by decide +kernel)
set_option maxRecDepth 20000 in
theorem gX6_next_X6_isLetter : GoodIn wsX6_next (va_wsS RX6 151 yX6_isLetter wsX6_isLetter) := goodIn_app (goodIn_of _ (by decide +kernel)) ggX6_next_X6_isLetter
set_option maxRecDepth 20000 in
theorem ggX6_next_X6_isDigit : GoodIn wsX6_next wsX6_isDigit := goodIn_r _ [13] (by decide +kernel) (by decide +kernel)
set_option maxRecDepth 20000 in
theorem gX6_next_X6_isDigit : GoodIn wsX6_next (va_wsS RX6 155 yX6_isDigit wsX6_isDigit) := goodIn_app (goodIn_of _ (by decide +kernel)) ggX6_next_X6_isDigit
set_option maxRecDepth 20000 in
theorem ggX6_readsPlaces_X6_next : GoodIn wsX6_readsPlaces wsX6_next := goodIn_r _ [9, 2, 10, 11, 12, 13, 3, 14, 15, 8, 16, 17, 18, 19, 29, 30, 31, 32, 33, 34, 35, 36, 37, 38, 39, 40, 41, 42, 43, 44, 45, 46, 47, 48, 49, 50, 51, 52, 53, 54, 55, 56, 57, 58, 59] (by decide +kernel) (by decide +kernel)
set_option maxRecDepth 20000 in
theorem gX6_readsPlaces_X6_next : GoodIn wsX6_readsPlaces (wsV RX6 167 RX6 yX6_next wsX6_next) := goodIn_app (goodIn_of _ (by decide +kernel)) ggX6_readsPlaces_X6_next
set_option maxRecDepth 20000 in
theorem ggX6_readsPlaces_X6_errs : GoodIn wsX6_readsPlaces wsX6_errs := goodIn_r _ [23, 1, 11, 24, 29, 30, 31, 32, 33, 34, 35, 36, 37, 38, 39, 40, 41, 42, 43, 44, 45, 46, 47, 48, 49, 50, 51, 52, 53, 54, 55, 56, 57, 58, 59] (by decide +kernel) (by decide +kernel)
set_option maxRecDepth 20000 in
theorem gX6_readsPlaces_X6_errs : GoodIn wsX6_readsPlaces (wsV RX6 170 RX6 yX6_errs wsX6_errs) := goodIn_app (goodIn_of _ (by decide +kernel)) ggX6_readsPlaces_X6_errs
set_option maxRecDepth 20000 in
theorem ggX6_readsPlaces_X6_joins : GoodIn wsX6_readsPlaces wsX6_joins := goodIn_r _ [28, 4, 29, 30, 31, 32, 33, 34, 35, 36, 37, 38, 39, 40, 41, 42, 43, 44, 45, 46, 47, 48, 49, 50, 51, 52, 53, 54, 55, 56, 57, 58, 59] (by decide +kernel) (by decide +kernel)
set_option maxRecDepth 20000 in
theorem gX6_readsPlaces_X6_joins : GoodIn wsX6_readsPlaces (wsV RX6 54 RX6 yX6_joins wsX6_joins) := goodIn_app (goodIn_of _ (by decide +kernel)) ggX6_readsPlaces_X6_joins
set_option maxRecDepth 20000 in
theorem ggX6_thePlace_X6_errs : GoodIn wsX6_thePlace wsX6_errs := goodIn_r _ [8, 1, 9, 10, 19, 20, 21, 22, 23, 24, 25, 26, 27, 28, 29, 30, 31, 32, 33, 34, 35, 36, 37, 38, 39, 40, 41, 42, 43, 44, 45, 46, 47, 48, 49] (by decide +kernel) (by decide +kernel)
set_option maxRecDepth 20000 in
theorem gX6_thePlace_X6_errs : GoodIn wsX6_thePlace (wsV RX6 170 RX6 yX6_errs wsX6_errs) := goodIn_app (goodIn_of _ (by decide +kernel)) ggX6_thePlace_X6_errs
set_option maxRecDepth 20000 in
theorem ggX6_thePlace_X6_isPlace : GoodIn wsX6_thePlace wsX6_isPlace := goodIn_r _ [14, 15, 16, 17, 7, 18, 19, 20, 21, 22, 23, 24, 25, 26, 27, 28, 29, 30, 31, 32, 33, 34, 35, 36, 37, 38, 39, 40, 41, 42, 43, 44, 45, 46, 47, 48, 49] (by decide +kernel) (by decide +kernel)
set_option maxRecDepth 20000 in
theorem gX6_thePlace_X6_isPlace : GoodIn wsX6_thePlace (wsV RX6 173 RX6 yX6_isPlace wsX6_isPlace) := goodIn_app (goodIn_of _ (by decide +kernel)) ggX6_thePlace_X6_isPlace
set_option maxRecDepth 20000 in
theorem ggX6_readsMoves_X6_next : GoodIn wsX6_readsMoves wsX6_next := goodIn_r _ [8, 3, 9, 10, 11, 12, 13, 14, 15, 7, 16, 17, 18, 19, 44, 45, 46, 47, 48, 49, 50, 51, 52, 53, 54, 55, 56, 57, 58, 59, 60, 61, 62, 63, 64, 65, 66, 67, 68, 69, 70, 71, 72, 73, 74] (by decide +kernel) (by decide +kernel)
set_option maxRecDepth 20000 in
theorem gX6_readsMoves_X6_next : GoodIn wsX6_readsMoves (wsV RX6 167 RX6 yX6_next wsX6_next) := goodIn_app (goodIn_of _ (by decide +kernel)) ggX6_readsMoves_X6_next
set_option maxRecDepth 20000 in
theorem ggX6_readsMoves_X6_thePlace : GoodIn wsX6_readsMoves wsX6_thePlace := goodIn_r _ [23, 1, 3, 13, 24, 25, 26, 7, 27, 10, 28, 29, 30, 31, 32, 2, 33, 34, 35, 44, 45, 46, 47, 48, 49, 50, 51, 52, 53, 54, 55, 56, 57, 58, 59, 60, 61, 62, 63, 64, 65, 66, 67, 68, 69, 70, 71, 72, 73, 74] (by decide +kernel) (by decide +kernel)
set_option maxRecDepth 20000 in
theorem gX6_readsMoves_X6_thePlace : GoodIn wsX6_readsMoves (wsV RX6 176 RX6 yX6_thePlace wsX6_thePlace) := goodIn_app (goodIn_of _ (by decide +kernel)) ggX6_readsMoves_X6_thePlace
set_option maxRecDepth 20000 in
theorem ggX6_readsMoves_X6_between : GoodIn wsX6_readsMoves wsX6_between := goodIn_r _ [39, 2, 44, 45, 46, 47, 48, 49, 50, 51, 52, 53, 54, 55, 56, 57, 58, 59, 60, 61, 62, 63, 64, 65, 66, 67, 68, 69, 70, 71, 72, 73, 74] (by decide +kernel) (by decide +kernel)
set_option maxRecDepth 20000 in
theorem gX6_readsMoves_X6_between : GoodIn wsX6_readsMoves (wsV RX6 179 RX6 yX6_between wsX6_between) := goodIn_app (goodIn_of _ (by decide +kernel)) ggX6_readsMoves_X6_between
set_option maxRecDepth 20000 in
theorem ggX6_readsMoves_X6_errs : GoodIn wsX6_readsMoves wsX6_errs := goodIn_r _ [27, 1, 10, 28, 44, 45, 46, 47, 48, 49, 50, 51, 52, 53, 54, 55, 56, 57, 58, 59, 60, 61, 62, 63, 64, 65, 66, 67, 68, 69, 70, 71, 72, 73, 74] (by decide +kernel) (by decide +kernel)
set_option maxRecDepth 20000 in
theorem gX6_readsMoves_X6_errs : GoodIn wsX6_readsMoves (wsV RX6 170 RX6 yX6_errs wsX6_errs) := goodIn_app (goodIn_of _ (by decide +kernel)) ggX6_readsMoves_X6_errs
set_option maxRecDepth 20000 in
theorem ggX6_readsMoves_X6_leads : GoodIn wsX6_readsMoves wsX6_leads := goodIn_r _ [43, 2, 44, 45, 46, 47, 48, 49, 50, 51, 52, 53, 54, 55, 56, 57, 58, 59, 60, 61, 62, 63, 64, 65, 66, 67, 68, 69, 70, 71, 72, 73, 74] (by decide +kernel) (by decide +kernel)
set_option maxRecDepth 20000 in
theorem gX6_readsMoves_X6_leads : GoodIn wsX6_readsMoves (wsV RX6 58 RX6 yX6_leads wsX6_leads) := goodIn_app (goodIn_of _ (by decide +kernel)) ggX6_readsMoves_X6_leads
set_option maxRecDepth 20000 in
theorem ggX6_readsLine_X6_isKey : GoodIn wsX6_readsLine wsX6_isKey := goodIn_r _ [7, 8, 9, 10, 11, 12, 61, 62, 63, 64, 65, 66, 67, 68, 69, 70, 71, 72, 73, 74, 75, 76, 77, 78, 79, 80, 81, 82, 83, 84, 85, 86, 87, 88, 89, 90, 91] (by decide +kernel) (by decide +kernel)
set_option maxRecDepth 20000 in
theorem gX6_readsLine_X6_isKey : GoodIn wsX6_readsLine (wsV RX6 182 RX6 yX6_isKey wsX6_isKey) := goodIn_app (goodIn_of _ (by decide +kernel)) ggX6_readsLine_X6_isKey
set_option maxRecDepth 20000 in
theorem ggX6_readsLine_X6_readsPlaces : GoodIn wsX6_readsLine wsX6_readsPlaces := goodIn_r _ [16, 2, 8, 17, 1, 18, 19, 20, 6, 21, 9, 10, 22, 11, 23, 24, 25, 26, 27, 28, 29, 30, 31, 32, 33, 34, 35, 36, 37, 61, 62, 63, 64, 65, 66, 67, 68, 69, 70, 71, 72, 73, 74, 75, 76, 77, 78, 79, 80, 81, 82, 83, 84, 85, 86, 87, 88, 89, 90, 91] (by decide +kernel) (by decide +kernel)
set_option maxRecDepth 20000 in
theorem gX6_readsLine_X6_readsPlaces : GoodIn wsX6_readsLine (wsV RX6 185 RX6 yX6_readsPlaces wsX6_readsPlaces) := goodIn_app (goodIn_of _ (by decide +kernel)) ggX6_readsLine_X6_readsPlaces
set_option maxRecDepth 20000 in
theorem ggX6_readsLine_X6_readsMoves : GoodIn wsX6_readsLine wsX6_readsMoves := goodIn_r _ [41, 2, 1, 8, 18, 19, 20, 6, 21, 9, 10, 22, 11, 17, 23, 24, 25, 26, 27, 28, 42, 43, 44, 45, 29, 30, 31, 32, 33, 46, 47, 48, 49, 50, 51, 52, 53, 54, 55, 56, 57, 58, 59, 60, 61, 62, 63, 64, 65, 66, 67, 68, 69, 70, 71, 72, 73, 74, 75, 76, 77, 78, 79, 80, 81, 82, 83, 84, 85, 86, 87, 88, 89, 90, 91] (by decide +kernel) (by decide +kernel)
set_option maxRecDepth 20000 in
theorem gX6_readsLine_X6_readsMoves : GoodIn wsX6_readsLine (wsV RX6 188 RX6 yX6_readsMoves wsX6_readsMoves) := goodIn_app (goodIn_of _ (by decide +kernel)) ggX6_readsLine_X6_readsMoves
set_option maxRecDepth 20000 in
theorem ggX6_readsLine_X6_next : GoodIn wsX6_readsLine wsX6_next := goodIn_r _ [21, 8, 9, 10, 22, 11, 17, 23, 24, 6, 25, 26, 27, 28, 61, 62, 63, 64, 65, 66, 67, 68, 69, 70, 71, 72, 73, 74, 75, 76, 77, 78, 79, 80, 81, 82, 83, 84, 85, 86, 87, 88, 89, 90, 91] (by decide +kernel) (by decide +kernel)
set_option maxRecDepth 20000 in
theorem gX6_readsLine_X6_next : GoodIn wsX6_readsLine (wsV RX6 167 RX6 yX6_next wsX6_next) := goodIn_app (goodIn_of _ (by decide +kernel)) ggX6_readsLine_X6_next
set_option maxRecDepth 20000 in
theorem ggX6_readsLine_X6_thePlace : GoodIn wsX6_readsLine wsX6_thePlace := goodIn_r _ [45, 2, 8, 17, 29, 30, 31, 6, 32, 10, 33, 46, 47, 48, 49, 1, 50, 51, 52, 61, 62, 63, 64, 65, 66, 67, 68, 69, 70, 71, 72, 73, 74, 75, 76, 77, 78, 79, 80, 81, 82, 83, 84, 85, 86, 87, 88, 89, 90, 91] (by decide +kernel) (by decide +kernel)
set_option maxRecDepth 20000 in
theorem gX6_readsLine_X6_thePlace : GoodIn wsX6_readsLine (wsV RX6 176 RX6 yX6_thePlace wsX6_thePlace) := goodIn_app (goodIn_of _ (by decide +kernel)) ggX6_readsLine_X6_thePlace
set_option maxRecDepth 20000 in
theorem ggX6_readsLine_X6_errs : GoodIn wsX6_readsLine wsX6_errs := goodIn_r _ [32, 2, 10, 33, 61, 62, 63, 64, 65, 66, 67, 68, 69, 70, 71, 72, 73, 74, 75, 76, 77, 78, 79, 80, 81, 82, 83, 84, 85, 86, 87, 88, 89, 90, 91] (by decide +kernel) (by decide +kernel)
set_option maxRecDepth 20000 in
theorem gX6_readsLine_X6_errs : GoodIn wsX6_readsLine (wsV RX6 170 RX6 yX6_errs wsX6_errs) := goodIn_app (goodIn_of _ (by decide +kernel)) ggX6_readsLine_X6_errs
set_option maxRecDepth 20000 in
theorem ggX6_readsText_X6_next : GoodIn wsX6_readsText wsX6_next := goodIn_r _ [10, 4, 5, 11, 2, 12, 13, 14, 15, 9, 16, 17, 18, 19, 73, 74, 75, 76, 77, 78, 79, 80, 81, 82, 83, 84, 85, 86, 87, 88, 89, 90, 91, 92, 93, 94, 95, 96, 97, 98, 99, 100, 101, 102, 103] (by decide +kernel) (by decide +kernel)
set_option maxRecDepth 20000 in
theorem gX6_readsText_X6_next : GoodIn wsX6_readsText (wsV RX6 167 RX6 yX6_next wsX6_next) := goodIn_app (goodIn_of _ (by decide +kernel)) ggX6_readsText_X6_next
set_option maxRecDepth 20000 in
theorem ggX6_readsText_X6_isKey : GoodIn wsX6_readsText wsX6_isKey := goodIn_r _ [23, 4, 5, 11, 12, 24, 73, 74, 75, 76, 77, 78, 79, 80, 81, 82, 83, 84, 85, 86, 87, 88, 89, 90, 91, 92, 93, 94, 95, 96, 97, 98, 99, 100, 101, 102, 103] (by decide +kernel) (by decide +kernel)
set_option maxRecDepth 20000 in
theorem gX6_readsText_X6_isKey : GoodIn wsX6_readsText (wsV RX6 182 RX6 yX6_isKey wsX6_isKey) := goodIn_app (goodIn_of _ (by decide +kernel)) ggX6_readsText_X6_isKey
set_option maxRecDepth 20000 in
theorem ggX6_readsText_X6_errs : GoodIn wsX6_readsText wsX6_errs := goodIn_r _ [28, 3, 11, 29, 73, 74, 75, 76, 77, 78, 79, 80, 81, 82, 83, 84, 85, 86, 87, 88, 89, 90, 91, 92, 93, 94, 95, 96, 97, 98, 99, 100, 101, 102, 103] (by decide +kernel) (by decide +kernel)
set_option maxRecDepth 20000 in
theorem gX6_readsText_X6_errs : GoodIn wsX6_readsText (wsV RX6 170 RX6 yX6_errs wsX6_errs) := goodIn_app (goodIn_of _ (by decide +kernel)) ggX6_readsText_X6_errs
set_option maxRecDepth 20000 in
theorem ggX6_readsText_X6_readsLine : GoodIn wsX6_readsText wsX6_readsLine := goodIn_r _ [33, 1, 3, 20, 21, 22, 9, 23, 4, 5, 11, 12, 24, 34, 35, 36, 37, 13, 6, 7, 8, 10, 2, 14, 15, 16, 17, 18, 19, 25, 26, 27, 28, 29, 38, 39, 40, 41, 42, 43, 44, 45, 46, 47, 48, 49, 50, 51, 52, 53, 54, 55, 56, 57, 58, 59, 60, 61, 62, 63, 64, 73, 74, 75, 76, 77, 78, 79, 80, 81, 82, 83, 84, 85, 86, 87, 88, 89, 90, 91, 92, 93, 94, 95, 96, 97, 98, 99, 100, 101, 102, 103] (by decide +kernel) (by decide +kernel)
set_option maxRecDepth 20000 in
theorem gX6_readsText_X6_readsLine : GoodIn wsX6_readsText (wsV RX6 191 RX6 yX6_readsLine wsX6_readsLine) := goodIn_app (goodIn_of _ (by decide +kernel)) ggX6_readsText_X6_readsLine
set_option maxRecDepth 20000 in
theorem ggX6_readsText_X6_lays : GoodIn wsX6_readsText wsX6_lays := goodIn_r _ [68, 1, 69, 70, 71, 9, 72, 73, 74, 75, 76, 77, 78, 79, 80, 81, 82, 83, 84, 85, 86, 87, 88, 89, 90, 91, 92, 93, 94, 95, 96, 97, 98, 99, 100, 101, 102, 103] (by decide +kernel) (by decide +kernel)
set_option maxRecDepth 20000 in
theorem gX6_readsText_X6_lays : GoodIn wsX6_readsText (wsV RX6 61 RX6 yX6_lays wsX6_lays) := goodIn_app (goodIn_of _ (by decide +kernel)) ggX6_readsText_X6_lays
set_option maxRecDepth 20000 in
theorem ggX6_feed_X6_refuse : GoodIn wsX6_feed wsX6_refuse := goodIn_r _ [6, 7, 17, 18, 19, 20, 21, 22, 23, 24, 25, 26, 27, 28, 29, 30, 31, 32, 33, 34, 35, 36, 37, 38, 39, 40, 41, 42, 43, 44, 45, 46, 47] (by decide +kernel) (by decide +kernel)
set_option maxRecDepth 20000 in
theorem gX6_feed_X6_refuse : GoodIn wsX6_feed (wsV RX6 197 RX6 yX6_refuse wsX6_refuse) := goodIn_app (goodIn_of _ (by decide +kernel)) ggX6_feed_X6_refuse
set_option maxRecDepth 20000 in
theorem ggX6_feed_X6_feeds : GoodIn wsX6_feed wsX6_feeds := goodIn_r _ [11, 12, 1, 17, 18, 19, 20, 21, 22, 23, 24, 25, 26, 27, 28, 29, 30, 31, 32, 33, 34, 35, 36, 37, 38, 39, 40, 41, 42, 43, 44, 45, 46, 47] (by decide +kernel) (by decide +kernel)
set_option maxRecDepth 20000 in
theorem gX6_feed_X6_feeds : GoodIn wsX6_feed (wsV RX6 200 RX6 yX6_feeds wsX6_feeds) := goodIn_app (goodIn_of _ (by decide +kernel)) ggX6_feed_X6_feeds
set_option maxRecDepth 20000 in
theorem ggX6_feed_X6_told : GoodIn wsX6_feed wsX6_told := goodIn_r _ [16, 7, 17, 18, 19, 20, 21, 22, 23, 24, 25, 26, 27, 28, 29, 30, 31, 32, 33, 34, 35, 36, 37, 38, 39, 40, 41, 42, 43, 44, 45, 46, 47] (by decide +kernel) (by decide +kernel)
set_option maxRecDepth 20000 in
theorem gX6_feed_X6_told : GoodIn wsX6_feed (wsV RX6 203 RX6 yX6_told wsX6_told) := goodIn_app (goodIn_of _ (by decide +kernel)) ggX6_feed_X6_told
set_option maxRecDepth 20000 in
theorem ggX6_load_X6_in : GoodIn wsX6_load wsX6_in := goodIn_r _ [12] (by decide +kernel) (by decide +kernel)
set_option maxRecDepth 20000 in
theorem gX6_load_X6_in : GoodIn wsX6_load (va_wsS RX6 68 yX6_in wsX6_in) := goodIn_app (goodIn_of _ (by decide +kernel)) ggX6_load_X6_in
set_option maxRecDepth 20000 in
theorem ggX6_load_X6_refuse : GoodIn wsX6_load wsX6_refuse := goodIn_r _ [16, 17, 100, 101, 102, 103, 104, 105, 106, 107, 108, 109, 110, 111, 112, 113, 114, 115, 116, 117, 118, 119, 120, 121, 122, 123, 124, 125, 126, 127, 128, 129, 130] (by decide +kernel) (by decide +kernel)
set_option maxRecDepth 20000 in
theorem gX6_load_X6_refuse : GoodIn wsX6_load (wsV RX6 197 RX6 yX6_refuse wsX6_refuse) := goodIn_app (goodIn_of _ (by decide +kernel)) ggX6_load_X6_refuse
set_option maxRecDepth 20000 in
theorem ggX6_load_X6_putsAside : GoodIn wsX6_load wsX6_putsAside := goodIn_r _ [21, 22, 8, 100, 101, 102, 103, 104, 105, 106, 107, 108, 109, 110, 111, 112, 113, 114, 115, 116, 117, 118, 119, 120, 121, 122, 123, 124, 125, 126, 127, 128, 129, 130] (by decide +kernel) (by decide +kernel)
set_option maxRecDepth 20000 in
theorem gX6_load_X6_putsAside : GoodIn wsX6_load (wsV RX6 206 RX6 yX6_putsAside wsX6_putsAside) := goodIn_app (goodIn_of _ (by decide +kernel)) ggX6_load_X6_putsAside
set_option maxRecDepth 20000 in
theorem ggX6_load_X6_readsText : GoodIn wsX6_load wsX6_readsText := goodIn_r _ [26, 8, 27, 2, 28, 29, 30, 31, 32, 11, 33, 34, 35, 36, 37, 38, 39, 40, 41, 42, 43, 44, 45, 46, 47, 48, 49, 50, 51, 4, 52, 53, 54, 55, 56, 57, 58, 59, 60, 61, 62, 63, 64, 65, 66, 67, 68, 69, 70, 71, 72, 73, 74, 75, 9, 10, 12, 76, 77, 78, 79, 80, 81, 82, 83, 84, 85, 86, 87, 88, 89, 90, 91, 100, 101, 102, 103, 104, 105, 106, 107, 108, 109, 110, 111, 112, 113, 114, 115, 116, 117, 118, 119, 120, 121, 122, 123, 124, 125, 126, 127, 128, 129, 130] (by decide +kernel) (by decide +kernel)
set_option maxRecDepth 20000 in
theorem gX6_load_X6_readsText : GoodIn wsX6_load (wsV RX6 209 RX6 yX6_readsText wsX6_readsText) := goodIn_app (goodIn_of _ (by decide +kernel)) ggX6_load_X6_readsText
set_option maxRecDepth 20000 in
theorem ggX6_load_X6_putsBack : GoodIn wsX6_load wsX6_putsBack := goodIn_r _ [95, 8, 22, 100, 101, 102, 103, 104, 105, 106, 107, 108, 109, 110, 111, 112, 113, 114, 115, 116, 117, 118, 119, 120, 121, 122, 123, 124, 125, 126, 127, 128, 129, 130] (by decide +kernel) (by decide +kernel)
set_option maxRecDepth 20000 in
theorem gX6_load_X6_putsBack : GoodIn wsX6_load (wsV RX6 215 RX6 yX6_putsBack wsX6_putsBack) := goodIn_app (goodIn_of _ (by decide +kernel)) ggX6_load_X6_putsBack
set_option maxRecDepth 20000 in
theorem ggX6_load_X6_told : GoodIn wsX6_load wsX6_told := goodIn_r _ [99, 17, 100, 101, 102, 103, 104, 105, 106, 107, 108, 109, 110, 111, 112, 113, 114, 115, 116, 117, 118, 119, 120, 121, 122, 123, 124, 125, 126, 127, 128, 129, 130] (by decide +kernel) (by decide +kernel)
set_option maxRecDepth 20000 in
theorem gX6_load_X6_told : GoodIn wsX6_load (wsV RX6 203 RX6 yX6_told wsX6_told) := goodIn_app (goodIn_of _ (by decide +kernel)) ggX6_load_X6_told
set_option maxRecDepth 20000 in
theorem ggX6_errorCode_X6_told : GoodIn wsX6_errorCode wsX6_told := goodIn_r _ [6, 7, 8, 9, 10, 11, 12, 13, 14, 15, 16, 17, 18, 19, 20, 21, 22, 23, 24, 25, 26, 27, 28, 29, 30, 31, 32, 33, 34, 35, 36, 37, 38] (by decide +kernel) (by decide +kernel)
set_option maxRecDepth 20000 in
theorem gX6_errorCode_X6_told : GoodIn wsX6_errorCode (wsV RX6 203 RX6 yX6_told wsX6_told) := goodIn_app (goodIn_of _ (by decide +kernel)) ggX6_errorCode_X6_told
set_option maxRecDepth 20000 in
theorem ggX6_errorPosition_X6_told : GoodIn wsX6_errorPosition wsX6_told := goodIn_r _ [6, 7, 8, 9, 10, 11, 12, 13, 14, 15, 16, 17, 18, 19, 20, 21, 22, 23, 24, 25, 26, 27, 28, 29, 30, 31, 32, 33, 34, 35, 36, 37, 38] (by decide +kernel) (by decide +kernel)
set_option maxRecDepth 20000 in
theorem gX6_errorPosition_X6_told : GoodIn wsX6_errorPosition (wsV RX6 203 RX6 yX6_told wsX6_told) := goodIn_app (goodIn_of _ (by decide +kernel)) ggX6_errorPosition_X6_told
set_option maxRecDepth 20000 in
theorem ggX6_size_X6_in : GoodIn wsX6_size wsX6_in := goodIn_r _ [5] (by decide +kernel) (by decide +kernel)
set_option maxRecDepth 20000 in
theorem gX6_size_X6_in : GoodIn wsX6_size (va_wsS RX6 68 yX6_in wsX6_in) := goodIn_app (goodIn_of _ (by decide +kernel)) ggX6_size_X6_in
set_option maxRecDepth 20000 in
theorem ggX6_size_X6_refuse : GoodIn wsX6_size wsX6_refuse := goodIn_r _ [9, 10, 23, 24, 25, 26, 27, 28, 29, 30, 31, 32, 33, 34, 35, 36, 37, 38, 39, 40, 41, 42, 43, 44, 45, 46, 47, 48, 49, 50, 51, 52, 53] (by decide +kernel) (by decide +kernel)
set_option maxRecDepth 20000 in
theorem gX6_size_X6_refuse : GoodIn wsX6_size (wsV RX6 197 RX6 yX6_refuse wsX6_refuse) := goodIn_app (goodIn_of _ (by decide +kernel)) ggX6_size_X6_refuse
set_option maxRecDepth 20000 in
theorem ggX6_size_X6_greatestCall : GoodIn wsX6_size wsX6_greatestCall := goodIn_r _ [14, 1, 23, 24, 25, 26, 27, 28, 29, 30, 31, 32, 33, 34, 35, 36, 37, 38, 39, 40, 41, 42, 43, 44, 45, 46, 47, 48, 49, 50, 51, 52, 53] (by decide +kernel) (by decide +kernel)
set_option maxRecDepth 20000 in
theorem gX6_size_X6_greatestCall : GoodIn wsX6_size (wsV RX6 221 RX6 yX6_greatestCall wsX6_greatestCall) := goodIn_app (goodIn_of _ (by decide +kernel)) ggX6_size_X6_greatestCall
set_option maxRecDepth 20000 in
theorem ggX6_size_X6_told : GoodIn wsX6_size wsX6_told := goodIn_r _ [18, 10, 23, 24, 25, 26, 27, 28, 29, 30, 31, 32, 33, 34, 35, 36, 37, 38, 39, 40, 41, 42, 43, 44, 45, 46, 47, 48, 49, 50, 51, 52, 53] (by decide +kernel) (by decide +kernel)
set_option maxRecDepth 20000 in
theorem gX6_size_X6_told : GoodIn wsX6_size (wsV RX6 203 RX6 yX6_told wsX6_told) := goodIn_app (goodIn_of _ (by decide +kernel)) ggX6_size_X6_told
set_option maxRecDepth 20000 in
theorem ggX6_size_X6_movesAt : GoodIn wsX6_size wsX6_movesAt := goodIn_r _ [22, 1, 23, 24, 25, 26, 27, 28, 29, 30, 31, 32, 33, 34, 35, 36, 37, 38, 39, 40, 41, 42, 43, 44, 45, 46, 47, 48, 49, 50, 51, 52, 53] (by decide +kernel) (by decide +kernel)
set_option maxRecDepth 20000 in
theorem gX6_size_X6_movesAt : GoodIn wsX6_size (wsV RX6 224 RX6 yX6_movesAt wsX6_movesAt) := goodIn_app (goodIn_of _ (by decide +kernel)) ggX6_size_X6_movesAt
set_option maxRecDepth 20000 in
theorem ggX6_winner_X6_wonByEven : GoodIn wsX6_winner wsX6_wonByEven := goodIn_r _ [5, 6, 7, 8, 4, 9, 10, 11, 12, 13, 14, 15, 16, 17, 18, 19, 20, 21, 22, 23, 24, 25, 26, 27, 28, 29, 30, 34, 35, 36, 37, 38, 39, 40, 41, 42, 43, 44, 45, 46, 47, 48, 49, 50, 51, 52, 53, 54, 55, 56, 57, 58, 59, 60, 61, 62, 63, 64] (by decide +kernel) (by decide +kernel)
set_option maxRecDepth 20000 in
theorem gX6_winner_X6_wonByEven : GoodIn wsX6_winner (wsV RX6 96 RX6 yX6_wonByEven wsX6_wonByEven) := goodIn_app (goodIn_of _ (by decide +kernel)) ggX6_winner_X6_wonByEven
set_option maxRecDepth 20000 in
theorem ggX6_winner_X6_has : GoodIn wsX6_winner wsX6_has := goodIn_r _ [33] (by decide +kernel) (by decide +kernel)
set_option maxRecDepth 20000 in
theorem gX6_winner_X6_has : GoodIn wsX6_winner (va_wsS RX6 102 yX6_has wsX6_has) := goodIn_app (goodIn_of _ (by decide +kernel)) ggX6_winner_X6_has
set_option maxRecDepth 20000 in
theorem ggX6_place_X6_isPlace : GoodIn wsX6_place wsX6_isPlace := goodIn_r _ [6, 1, 7, 8, 5, 9, 58, 59, 60, 61, 62, 63, 64, 65, 66, 67, 68, 69, 70, 71, 72, 73, 74, 75, 76, 77, 78, 79, 80, 81, 82, 83, 84, 85, 86, 87, 88] (by decide +kernel) (by decide +kernel)
set_option maxRecDepth 20000 in
theorem gX6_place_X6_isPlace : GoodIn wsX6_place (wsV RX6 173 RX6 yX6_isPlace wsX6_isPlace) := goodIn_app (goodIn_of _ (by decide +kernel)) ggX6_place_X6_isPlace
set_option maxRecDepth 20000 in
theorem ggX6_place_X6_refuse : GoodIn wsX6_place wsX6_refuse := goodIn_r _ [13, 14, 58, 59, 60, 61, 62, 63, 64, 65, 66, 67, 68, 69, 70, 71, 72, 73, 74, 75, 76, 77, 78, 79, 80, 81, 82, 83, 84, 85, 86, 87, 88] (by decide +kernel) (by decide +kernel)
set_option maxRecDepth 20000 in
theorem gX6_place_X6_refuse : GoodIn wsX6_place (wsV RX6 197 RX6 yX6_refuse wsX6_refuse) := goodIn_app (goodIn_of _ (by decide +kernel)) ggX6_place_X6_refuse
set_option maxRecDepth 20000 in
theorem ggX6_place_X6_in : GoodIn wsX6_place wsX6_in := goodIn_r _ [9] (by decide +kernel) (by decide +kernel)
set_option maxRecDepth 20000 in
theorem gX6_place_X6_in : GoodIn wsX6_place (va_wsS RX6 68 yX6_in wsX6_in) := goodIn_app (goodIn_of _ (by decide +kernel)) ggX6_place_X6_in
set_option maxRecDepth 20000 in
theorem ggX6_place_X6_told : GoodIn wsX6_place wsX6_told := goodIn_r _ [18, 14, 58, 59, 60, 61, 62, 63, 64, 65, 66, 67, 68, 69, 70, 71, 72, 73, 74, 75, 76, 77, 78, 79, 80, 81, 82, 83, 84, 85, 86, 87, 88] (by decide +kernel) (by decide +kernel)
set_option maxRecDepth 20000 in
theorem gX6_place_X6_told : GoodIn wsX6_place (wsV RX6 203 RX6 yX6_told wsX6_told) := goodIn_app (goodIn_of _ (by decide +kernel)) ggX6_place_X6_told
set_option maxRecDepth 20000 in
theorem ggX6_place_X6_winner : GoodIn wsX6_place wsX6_winner := goodIn_r _ [22, 23, 24, 25, 5, 26, 27, 28, 29, 30, 1, 31, 32, 33, 34, 35, 36, 37, 38, 39, 40, 41, 42, 43, 44, 45, 46, 47, 48, 49, 50, 51, 52, 53, 58, 59, 60, 61, 62, 63, 64, 65, 66, 67, 68, 69, 70, 71, 72, 73, 74, 75, 76, 77, 78, 79, 80, 81, 82, 83, 84, 85, 86, 87, 88] (by decide +kernel) (by decide +kernel)
set_option maxRecDepth 20000 in
theorem gX6_place_X6_winner : GoodIn wsX6_place (wsV RX6 227 RX6 yX6_winner wsX6_winner) := goodIn_app (goodIn_of _ (by decide +kernel)) ggX6_place_X6_winner
set_option maxRecDepth 20000 in
theorem ggX6_place_X6_movesAt : GoodIn wsX6_place wsX6_movesAt := goodIn_r _ [57, 1, 58, 59, 60, 61, 62, 63, 64, 65, 66, 67, 68, 69, 70, 71, 72, 73, 74, 75, 76, 77, 78, 79, 80, 81, 82, 83, 84, 85, 86, 87, 88] (by decide +kernel) (by decide +kernel)
set_option maxRecDepth 20000 in
theorem gX6_place_X6_movesAt : GoodIn wsX6_place (wsV RX6 224 RX6 yX6_movesAt wsX6_movesAt) := goodIn_app (goodIn_of _ (by decide +kernel)) ggX6_place_X6_movesAt
set_option maxRecDepth 20000 in
theorem ggX6_move_X6_isMove : GoodIn wsX6_move wsX6_isMove := goodIn_r _ [6, 1, 7, 8, 5, 9, 19, 20, 21, 22, 23, 24, 25, 26, 27, 28, 29, 30, 31, 32, 33, 34, 35, 36, 37, 38, 39, 40, 41, 42, 43, 44, 45, 46, 47, 48, 49] (by decide +kernel) (by decide +kernel)
set_option maxRecDepth 20000 in
theorem gX6_move_X6_isMove : GoodIn wsX6_move (wsV RX6 230 RX6 yX6_isMove wsX6_isMove) := goodIn_app (goodIn_of _ (by decide +kernel)) ggX6_move_X6_isMove
set_option maxRecDepth 20000 in
theorem ggX6_move_X6_refuse : GoodIn wsX6_move wsX6_refuse := goodIn_r _ [13, 14, 19, 20, 21, 22, 23, 24, 25, 26, 27, 28, 29, 30, 31, 32, 33, 34, 35, 36, 37, 38, 39, 40, 41, 42, 43, 44, 45, 46, 47, 48, 49] (by decide +kernel) (by decide +kernel)
set_option maxRecDepth 20000 in
theorem gX6_move_X6_refuse : GoodIn wsX6_move (wsV RX6 197 RX6 yX6_refuse wsX6_refuse) := goodIn_app (goodIn_of _ (by decide +kernel)) ggX6_move_X6_refuse
set_option maxRecDepth 20000 in
theorem ggX6_move_X6_in : GoodIn wsX6_move wsX6_in := goodIn_r _ [9] (by decide +kernel) (by decide +kernel)
set_option maxRecDepth 20000 in
theorem gX6_move_X6_in : GoodIn wsX6_move (va_wsS RX6 68 yX6_in wsX6_in) := goodIn_app (goodIn_of _ (by decide +kernel)) ggX6_move_X6_in
set_option maxRecDepth 20000 in
theorem ggX6_move_X6_told : GoodIn wsX6_move wsX6_told := goodIn_r _ [18, 14, 19, 20, 21, 22, 23, 24, 25, 26, 27, 28, 29, 30, 31, 32, 33, 34, 35, 36, 37, 38, 39, 40, 41, 42, 43, 44, 45, 46, 47, 48, 49] (by decide +kernel) (by decide +kernel)
set_option maxRecDepth 20000 in
theorem gX6_move_X6_told : GoodIn wsX6_move (wsV RX6 203 RX6 yX6_told wsX6_told) := goodIn_app (goodIn_of _ (by decide +kernel)) ggX6_move_X6_told
set_option maxRecDepth 20000 in
theorem ggX6_moveBetween_X6_isPlace : GoodIn wsX6_moveBetween wsX6_isPlace := goodIn_r _ [5, 6, 7, 8, 4, 9, 23, 24, 25, 26, 27, 28, 29, 30, 31, 32, 33, 34, 35, 36, 37, 38, 39, 40, 41, 42, 43, 44, 45, 46, 47, 48, 49, 50, 51, 52, 53] (by decide +kernel) (by decide +kernel)
set_option maxRecDepth 20000 in
theorem gX6_moveBetween_X6_isPlace : GoodIn wsX6_moveBetween (wsV RX6 173 RX6 yX6_isPlace wsX6_isPlace) := goodIn_app (goodIn_of _ (by decide +kernel)) ggX6_moveBetween_X6_isPlace
set_option maxRecDepth 20000 in
theorem ggX6_moveBetween_X6_refuse : GoodIn wsX6_moveBetween wsX6_refuse := goodIn_r _ [13, 14, 23, 24, 25, 26, 27, 28, 29, 30, 31, 32, 33, 34, 35, 36, 37, 38, 39, 40, 41, 42, 43, 44, 45, 46, 47, 48, 49, 50, 51, 52, 53] (by decide +kernel) (by decide +kernel)
set_option maxRecDepth 20000 in
theorem gX6_moveBetween_X6_refuse : GoodIn wsX6_moveBetween (wsV RX6 197 RX6 yX6_refuse wsX6_refuse) := goodIn_app (goodIn_of _ (by decide +kernel)) ggX6_moveBetween_X6_refuse
set_option maxRecDepth 20000 in
theorem ggX6_moveBetween_X6_between : GoodIn wsX6_moveBetween wsX6_between := goodIn_r _ [18, 6, 23, 24, 25, 26, 27, 28, 29, 30, 31, 32, 33, 34, 35, 36, 37, 38, 39, 40, 41, 42, 43, 44, 45, 46, 47, 48, 49, 50, 51, 52, 53] (by decide +kernel) (by decide +kernel)
set_option maxRecDepth 20000 in
theorem gX6_moveBetween_X6_between : GoodIn wsX6_moveBetween (wsV RX6 179 RX6 yX6_between wsX6_between) := goodIn_app (goodIn_of _ (by decide +kernel)) ggX6_moveBetween_X6_between
set_option maxRecDepth 20000 in
theorem ggX6_moveBetween_X6_told : GoodIn wsX6_moveBetween wsX6_told := goodIn_r _ [22, 14, 23, 24, 25, 26, 27, 28, 29, 30, 31, 32, 33, 34, 35, 36, 37, 38, 39, 40, 41, 42, 43, 44, 45, 46, 47, 48, 49, 50, 51, 52, 53] (by decide +kernel) (by decide +kernel)
set_option maxRecDepth 20000 in
theorem gX6_moveBetween_X6_told : GoodIn wsX6_moveBetween (wsV RX6 203 RX6 yX6_told wsX6_told) := goodIn_app (goodIn_of _ (by decide +kernel)) ggX6_moveBetween_X6_told
set_option maxRecDepth 20000 in
theorem ggX6_heard_X6_in : GoodIn wsX6_heard wsX6_in := goodIn_r _ [5] (by decide +kernel) (by decide +kernel)
set_option maxRecDepth 20000 in
theorem gX6_heard_X6_in : GoodIn wsX6_heard (va_wsS RX6 68 yX6_in wsX6_in) := goodIn_app (goodIn_of _ (by decide +kernel)) ggX6_heard_X6_in
set_option maxRecDepth 20000 in
theorem ggX6_heard_X6_refuse : GoodIn wsX6_heard wsX6_refuse := goodIn_r _ [9, 10, 15, 16, 17, 18, 19, 20, 21, 22, 23, 24, 25, 26, 27, 28, 29, 30, 31, 32, 33, 34, 35, 36, 37, 38, 39, 40, 41, 42, 43, 44, 45] (by decide +kernel) (by decide +kernel)
set_option maxRecDepth 20000 in
theorem gX6_heard_X6_refuse : GoodIn wsX6_heard (wsV RX6 197 RX6 yX6_refuse wsX6_refuse) := goodIn_app (goodIn_of _ (by decide +kernel)) ggX6_heard_X6_refuse
set_option maxRecDepth 20000 in
theorem ggX6_heard_X6_told : GoodIn wsX6_heard wsX6_told := goodIn_r _ [14, 10, 15, 16, 17, 18, 19, 20, 21, 22, 23, 24, 25, 26, 27, 28, 29, 30, 31, 32, 33, 34, 35, 36, 37, 38, 39, 40, 41, 42, 43, 44, 45] (by decide +kernel) (by decide +kernel)
set_option maxRecDepth 20000 in
theorem gX6_heard_X6_told : GoodIn wsX6_heard (wsV RX6 203 RX6 yX6_told wsX6_told) := goodIn_app (goodIn_of _ (by decide +kernel)) ggX6_heard_X6_told
set_option maxRecDepth 20000 in
theorem ggX6_won_X6_in : GoodIn wsX6_won wsX6_in := goodIn_r _ [4] (by decide +kernel) (by decide +kernel)
set_option maxRecDepth 20000 in
theorem gX6_won_X6_in : GoodIn wsX6_won (va_wsS RX6 68 yX6_in wsX6_in) := goodIn_app (goodIn_of _ (by decide +kernel)) ggX6_won_X6_in
set_option maxRecDepth 20000 in
theorem ggX6_won_X6_refuse : GoodIn wsX6_won wsX6_refuse := goodIn_r _ [8, 9, 51, 52, 53, 54, 55, 56, 57, 58, 59, 60, 61, 62, 63, 64, 65, 66, 67, 68, 69, 70, 71, 72, 73, 74, 75, 76, 77, 78, 79, 80, 81] (by decide +kernel) (by decide +kernel)
set_option maxRecDepth 20000 in
theorem gX6_won_X6_refuse : GoodIn wsX6_won (wsV RX6 197 RX6 yX6_refuse wsX6_refuse) := goodIn_app (goodIn_of _ (by decide +kernel)) ggX6_won_X6_refuse
set_option maxRecDepth 20000 in
theorem ggX6_won_X6_wonBy : GoodIn wsX6_won wsX6_wonBy := goodIn_r _ [13, 14, 15, 16, 3, 17, 18, 19, 20, 21, 22, 23, 24, 25, 26, 27, 28, 29, 30, 31, 32, 33, 34, 35, 36, 37, 38, 39, 40, 41, 42, 43, 44, 45, 46, 51, 52, 53, 54, 55, 56, 57, 58, 59, 60, 61, 62, 63, 64, 65, 66, 67, 68, 69, 70, 71, 72, 73, 74, 75, 76, 77, 78, 79, 80, 81] (by decide +kernel) (by decide +kernel)
set_option maxRecDepth 20000 in
theorem gX6_won_X6_wonBy : GoodIn wsX6_won (wsV RX6 233 RX6 yX6_wonBy wsX6_wonBy) := goodIn_app (goodIn_of _ (by decide +kernel)) ggX6_won_X6_wonBy
set_option maxRecDepth 20000 in
theorem ggX6_won_X6_told : GoodIn wsX6_won wsX6_told := goodIn_r _ [50, 9, 51, 52, 53, 54, 55, 56, 57, 58, 59, 60, 61, 62, 63, 64, 65, 66, 67, 68, 69, 70, 71, 72, 73, 74, 75, 76, 77, 78, 79, 80, 81] (by decide +kernel) (by decide +kernel)
set_option maxRecDepth 20000 in
theorem gX6_won_X6_told : GoodIn wsX6_won (wsV RX6 203 RX6 yX6_told wsX6_told) := goodIn_app (goodIn_of _ (by decide +kernel)) ggX6_won_X6_told
set_option maxRecDepth 20000 in
theorem ggX6_shareOf_X6_wonBy : GoodIn wsX6_shareOf wsX6_wonBy := goodIn_r _ [6, 7, 8, 9, 5, 10, 11, 12, 13, 14, 1, 15, 16, 17, 18, 19, 20, 21, 22, 23, 24, 25, 26, 27, 28, 29, 30, 31, 32, 33, 34, 35, 36, 37, 38, 42, 43, 44, 45, 46, 47, 48, 49, 50, 51, 52, 53, 54, 55, 56, 57, 58, 59, 60, 61, 62, 63, 64, 65, 66, 67, 68, 69, 70, 71, 72] (by decide +kernel) (by decide +kernel)
set_option maxRecDepth 20000 in
theorem gX6_shareOf_X6_wonBy : GoodIn wsX6_shareOf (wsV RX6 233 RX6 yX6_wonBy wsX6_wonBy) := goodIn_app (goodIn_of _ (by decide +kernel)) ggX6_shareOf_X6_wonBy
set_option maxRecDepth 20000 in
theorem ggX6_shareOf_X6_many : GoodIn wsX6_shareOf wsX6_many := goodIn_r _ [41] (by decide +kernel) (by decide +kernel)
set_option maxRecDepth 20000 in
theorem gX6_shareOf_X6_many : GoodIn wsX6_shareOf (va_wsS RX6 236 yX6_many wsX6_many) := goodIn_app (goodIn_of _ (by decide +kernel)) ggX6_shareOf_X6_many
set_option maxRecDepth 20000 in
theorem ggX6_wonShare_X6_in : GoodIn wsX6_wonShare wsX6_in := goodIn_r _ [5] (by decide +kernel) (by decide +kernel)
set_option maxRecDepth 20000 in
theorem gX6_wonShare_X6_in : GoodIn wsX6_wonShare (va_wsS RX6 68 yX6_in wsX6_in) := goodIn_app (goodIn_of _ (by decide +kernel)) ggX6_wonShare_X6_in
set_option maxRecDepth 20000 in
theorem ggX6_wonShare_X6_shareOf : GoodIn wsX6_wonShare wsX6_shareOf := goodIn_r _ [9, 10, 11, 12, 13, 4, 14, 15, 16, 17, 18, 19, 20, 21, 22, 23, 24, 25, 26, 27, 28, 29, 30, 31, 32, 33, 34, 35, 36, 37, 38, 39, 40, 41, 42, 43, 44, 45, 46, 47, 48, 49, 50, 51, 52, 53, 54, 55, 56, 57, 58, 59, 60, 61, 62, 63, 64, 65, 66, 67, 68, 69, 70, 71, 72, 73, 74, 75, 76, 77, 78, 79, 80] (by decide +kernel) (by decide +kernel)
set_option maxRecDepth 20000 in
theorem gX6_wonShare_X6_shareOf : GoodIn wsX6_wonShare (wsV RX6 239 RX6 yX6_shareOf wsX6_shareOf) := goodIn_app (goodIn_of _ (by decide +kernel)) ggX6_wonShare_X6_shareOf
set_option maxRecDepth 20000 in
theorem ggX6_wonBits_X6_in : GoodIn wsX6_wonBits wsX6_in := goodIn_r _ [4] (by decide +kernel) (by decide +kernel)
set_option maxRecDepth 20000 in
theorem gX6_wonBits_X6_in : GoodIn wsX6_wonBits (va_wsS RX6 68 yX6_in wsX6_in) := goodIn_app (goodIn_of _ (by decide +kernel)) ggX6_wonBits_X6_in
set_option maxRecDepth 20000 in
theorem ggX6_wonBits_X6_refuse : GoodIn wsX6_wonBits wsX6_refuse := goodIn_r _ [8, 9, 70, 71, 72, 73, 74, 75, 76, 77, 78, 79, 80, 81, 82, 83, 84, 85, 86, 87, 88, 89, 90, 91, 92, 93, 94, 95, 96, 97, 98, 99, 100] (by decide +kernel) (by decide +kernel)
set_option maxRecDepth 20000 in
theorem gX6_wonBits_X6_refuse : GoodIn wsX6_wonBits (wsV RX6 197 RX6 yX6_refuse wsX6_refuse) := goodIn_app (goodIn_of _ (by decide +kernel)) ggX6_wonBits_X6_refuse
set_option maxRecDepth 20000 in
theorem ggX6_wonBits_X6_shareOf : GoodIn wsX6_wonBits wsX6_shareOf := goodIn_r _ [13, 14, 15, 16, 17, 3, 18, 19, 20, 21, 22, 23, 24, 25, 26, 27, 28, 29, 30, 31, 32, 33, 34, 35, 36, 37, 38, 39, 40, 41, 42, 43, 44, 45, 46, 47, 48, 49, 50, 51, 52, 53, 70, 71, 72, 73, 74, 75, 76, 77, 78, 79, 80, 81, 82, 83, 84, 85, 86, 87, 88, 89, 90, 91, 92, 93, 94, 95, 96, 97, 98, 99, 100] (by decide +kernel) (by decide +kernel)
set_option maxRecDepth 20000 in
theorem gX6_wonBits_X6_shareOf : GoodIn wsX6_wonBits (wsV RX6 239 RX6 yX6_shareOf wsX6_shareOf) := goodIn_app (goodIn_of _ (by decide +kernel)) ggX6_wonBits_X6_shareOf
set_option maxRecDepth 20000 in
theorem ggX6_wonBits_Jxf58ca_floatToIntBits_5c35a : GoodIn wsX6_wonBits wsJxf58ca_floatToIntBits_5c35a := goodIn_r _ [57, 58, 59, 60, 61, 62, 63, 64, 56, 65] (by decide +kernel) (by decide +kernel)
set_option maxRecDepth 20000 in
theorem gX6_wonBits_Jxf58ca_floatToIntBits_5c35a : GoodIn wsX6_wonBits (va_wsS RX6 243 yJxf58ca_floatToIntBits_5c35a wsJxf58ca_floatToIntBits_5c35a) := goodIn_app (goodIn_of _ (by decide +kernel)) ggX6_wonBits_Jxf58ca_floatToIntBits_5c35a
set_option maxRecDepth 20000 in
theorem ggX6_wonBits_X6_told : GoodIn wsX6_wonBits wsX6_told := goodIn_r _ [69, 9, 70, 71, 72, 73, 74, 75, 76, 77, 78, 79, 80, 81, 82, 83, 84, 85, 86, 87, 88, 89, 90, 91, 92, 93, 94, 95, 96, 97, 98, 99, 100] (by decide +kernel) (by decide +kernel)
set_option maxRecDepth 20000 in
theorem gX6_wonBits_X6_told : GoodIn wsX6_wonBits (wsV RX6 203 RX6 yX6_told wsX6_told) := goodIn_app (goodIn_of _ (by decide +kernel)) ggX6_wonBits_X6_told
set_option maxRecDepth 20000 in
theorem ggX6_meanCall_X6_in : GoodIn wsX6_meanCall wsX6_in := goodIn_r _ [6] (by decide +kernel) (by decide +kernel)
set_option maxRecDepth 20000 in
theorem gX6_meanCall_X6_in : GoodIn wsX6_meanCall (va_wsS RX6 68 yX6_in wsX6_in) := goodIn_app (goodIn_of _ (by decide +kernel)) ggX6_meanCall_X6_in
set_option maxRecDepth 20000 in
theorem ggX6_meanCall_X6_wonBy : GoodIn wsX6_meanCall wsX6_wonBy := goodIn_r _ [10, 11, 12, 13, 5, 14, 15, 16, 17, 18, 2, 19, 20, 21, 22, 23, 24, 25, 26, 27, 28, 29, 30, 31, 32, 33, 34, 35, 36, 37, 38, 39, 40, 41, 42, 49, 50, 51, 52, 53, 54, 55, 56, 57, 58, 59, 60, 61, 62, 63, 64, 65, 66, 67, 68, 69, 70, 71, 72, 73, 74, 75, 76, 77, 78, 79] (by decide +kernel) (by decide +kernel)
set_option maxRecDepth 20000 in
theorem gX6_meanCall_X6_wonBy : GoodIn wsX6_meanCall (wsV RX6 233 RX6 yX6_wonBy wsX6_wonBy) := goodIn_app (goodIn_of _ (by decide +kernel)) ggX6_meanCall_X6_wonBy
set_option maxRecDepth 20000 in
theorem ggX6_meanCall_X6_has : GoodIn wsX6_meanCall wsX6_has := goodIn_r _ [45] (by decide +kernel) (by decide +kernel)
set_option maxRecDepth 20000 in
theorem gX6_meanCall_X6_has : GoodIn wsX6_meanCall (va_wsS RX6 102 yX6_has wsX6_has) := goodIn_app (goodIn_of _ (by decide +kernel)) ggX6_meanCall_X6_has
set_option maxRecDepth 20000 in
theorem ggX6_meanCall_X6_many : GoodIn wsX6_meanCall wsX6_many := goodIn_r _ [48] (by decide +kernel) (by decide +kernel)
set_option maxRecDepth 20000 in
theorem gX6_meanCall_X6_many : GoodIn wsX6_meanCall (va_wsS RX6 236 yX6_many wsX6_many) := goodIn_app (goodIn_of _ (by decide +kernel)) ggX6_meanCall_X6_many
set_option maxRecDepth 20000 in
theorem ggX6_plan_X6_isPlace : GoodIn wsX6_plan wsX6_isPlace := goodIn_r _ [6, 7, 8, 9, 5, 10, 71, 72, 73, 74, 75, 76, 77, 78, 79, 80, 81, 82, 83, 84, 85, 86, 87, 88, 89, 90, 91, 92, 93, 94, 95, 96, 97, 98, 99, 100, 101] (by decide +kernel) (by decide +kernel)
set_option maxRecDepth 20000 in
theorem gX6_plan_X6_isPlace : GoodIn wsX6_plan (wsV RX6 173 RX6 yX6_isPlace wsX6_isPlace) := goodIn_app (goodIn_of _ (by decide +kernel)) ggX6_plan_X6_isPlace
set_option maxRecDepth 20000 in
theorem ggX6_plan_X6_refuse : GoodIn wsX6_plan wsX6_refuse := goodIn_r _ [14, 15, 71, 72, 73, 74, 75, 76, 77, 78, 79, 80, 81, 82, 83, 84, 85, 86, 87, 88, 89, 90, 91, 92, 93, 94, 95, 96, 97, 98, 99, 100, 101] (by decide +kernel) (by decide +kernel)
set_option maxRecDepth 20000 in
theorem gX6_plan_X6_refuse : GoodIn wsX6_plan (wsV RX6 197 RX6 yX6_refuse wsX6_refuse) := goodIn_app (goodIn_of _ (by decide +kernel)) ggX6_plan_X6_refuse
set_option maxRecDepth 20000 in
theorem ggX6_plan_X6_plans : GoodIn wsX6_plan wsX6_plans := goodIn_r _ [19, 7, 1, 20, 21, 22, 5, 23, 24, 25, 26, 27, 28, 29, 30, 31, 32, 33, 34, 35, 36, 37, 38, 39, 40, 41, 42, 43, 44, 45, 46, 47, 48, 49, 50, 51, 52, 53, 54, 55, 56, 57, 58, 59, 60, 61, 62, 63, 64, 65, 66, 71, 72, 73, 74, 75, 76, 77, 78, 79, 80, 81, 82, 83, 84, 85, 86, 87, 88, 89, 90, 91, 92, 93, 94, 95, 96, 97, 98, 99, 100, 101] (by decide +kernel) (by decide +kernel)
set_option maxRecDepth 20000 in
theorem gX6_plan_X6_plans : GoodIn wsX6_plan (wsV RX6 249 RX6 yX6_plans wsX6_plans) := goodIn_app (goodIn_of _ (by decide +kernel)) ggX6_plan_X6_plans
set_option maxRecDepth 20000 in
theorem ggX6_plan_X6_told : GoodIn wsX6_plan wsX6_told := goodIn_r _ [70, 15, 71, 72, 73, 74, 75, 76, 77, 78, 79, 80, 81, 82, 83, 84, 85, 86, 87, 88, 89, 90, 91, 92, 93, 94, 95, 96, 97, 98, 99, 100, 101] (by decide +kernel) (by decide +kernel)
set_option maxRecDepth 20000 in
theorem gX6_plan_X6_told : GoodIn wsX6_plan (wsV RX6 203 RX6 yX6_told wsX6_told) := goodIn_app (goodIn_of _ (by decide +kernel)) ggX6_plan_X6_told
set_option maxRecDepth 20000 in
theorem ggX6_follow_X6_isPlace : GoodIn wsX6_follow wsX6_isPlace := goodIn_r _ [7, 2, 8, 9, 6, 10, 71, 72, 73, 74, 75, 76, 77, 78, 79, 80, 81, 82, 83, 84, 85, 86, 87, 88, 89, 90, 91, 92, 93, 94, 95, 96, 97, 98, 99, 100, 101] (by decide +kernel) (by decide +kernel)
set_option maxRecDepth 20000 in
theorem gX6_follow_X6_isPlace : GoodIn wsX6_follow (wsV RX6 173 RX6 yX6_isPlace wsX6_isPlace) := goodIn_app (goodIn_of _ (by decide +kernel)) ggX6_follow_X6_isPlace
set_option maxRecDepth 20000 in
theorem ggX6_follow_X6_refuse : GoodIn wsX6_follow wsX6_refuse := goodIn_r _ [14, 15, 71, 72, 73, 74, 75, 76, 77, 78, 79, 80, 81, 82, 83, 84, 85, 86, 87, 88, 89, 90, 91, 92, 93, 94, 95, 96, 97, 98, 99, 100, 101] (by decide +kernel) (by decide +kernel)
set_option maxRecDepth 20000 in
theorem gX6_follow_X6_refuse : GoodIn wsX6_follow (wsV RX6 197 RX6 yX6_refuse wsX6_refuse) := goodIn_app (goodIn_of _ (by decide +kernel)) ggX6_follow_X6_refuse
set_option maxRecDepth 20000 in
theorem ggX6_follow_X6_in : GoodIn wsX6_follow wsX6_in := goodIn_r _ [10] (by decide +kernel) (by decide +kernel)
set_option maxRecDepth 20000 in
theorem gX6_follow_X6_in : GoodIn wsX6_follow (va_wsS RX6 68 yX6_in wsX6_in) := goodIn_app (goodIn_of _ (by decide +kernel)) ggX6_follow_X6_in
set_option maxRecDepth 20000 in
theorem ggX6_follow_X6_plans : GoodIn wsX6_follow wsX6_plans := goodIn_r _ [19, 2, 1, 20, 21, 22, 6, 23, 24, 25, 26, 27, 28, 29, 30, 31, 32, 33, 34, 35, 36, 37, 38, 39, 40, 41, 42, 43, 44, 45, 46, 47, 48, 49, 50, 51, 52, 53, 54, 55, 56, 57, 58, 59, 60, 61, 62, 63, 64, 65, 66, 71, 72, 73, 74, 75, 76, 77, 78, 79, 80, 81, 82, 83, 84, 85, 86, 87, 88, 89, 90, 91, 92, 93, 94, 95, 96, 97, 98, 99, 100, 101] (by decide +kernel) (by decide +kernel)
set_option maxRecDepth 20000 in
theorem gX6_follow_X6_plans : GoodIn wsX6_follow (wsV RX6 249 RX6 yX6_plans wsX6_plans) := goodIn_app (goodIn_of _ (by decide +kernel)) ggX6_follow_X6_plans
set_option maxRecDepth 20000 in
theorem ggX6_follow_X6_told : GoodIn wsX6_follow wsX6_told := goodIn_r _ [70, 15, 71, 72, 73, 74, 75, 76, 77, 78, 79, 80, 81, 82, 83, 84, 85, 86, 87, 88, 89, 90, 91, 92, 93, 94, 95, 96, 97, 98, 99, 100, 101] (by decide +kernel) (by decide +kernel)
set_option maxRecDepth 20000 in
theorem gX6_follow_X6_told : GoodIn wsX6_follow (wsV RX6 203 RX6 yX6_told wsX6_told) := goodIn_app (goodIn_of _ (by decide +kernel)) ggX6_follow_X6_told
set_option maxRecDepth 20000 in
theorem ggX6_play_X6_isPlace : GoodIn wsX6_play wsX6_isPlace := goodIn_r _ [8, 9, 10, 11, 7, 12, 79, 80, 81, 82, 83, 84, 85, 86, 87, 88, 89, 90, 91, 92, 93, 94, 95, 96, 97, 98, 99, 100, 101, 102, 103, 104, 105, 106, 107, 108, 109] (by decide +kernel) (by decide +kernel)
set_option maxRecDepth 20000 in
theorem gX6_play_X6_isPlace : GoodIn wsX6_play (wsV RX6 173 RX6 yX6_isPlace wsX6_isPlace) := goodIn_app (goodIn_of _ (by decide +kernel)) ggX6_play_X6_isPlace
set_option maxRecDepth 20000 in
theorem ggX6_play_X6_refuse : GoodIn wsX6_play wsX6_refuse := goodIn_r _ [16, 17, 79, 80, 81, 82, 83, 84, 85, 86, 87, 88, 89, 90, 91, 92, 93, 94, 95, 96, 97, 98, 99, 100, 101, 102, 103, 104, 105, 106, 107, 108, 109] (by decide +kernel) (by decide +kernel)
set_option maxRecDepth 20000 in
theorem gX6_play_X6_refuse : GoodIn wsX6_play (wsV RX6 197 RX6 yX6_refuse wsX6_refuse) := goodIn_app (goodIn_of _ (by decide +kernel)) ggX6_play_X6_refuse
set_option maxRecDepth 20000 in
theorem ggX6_play_X6_in : GoodIn wsX6_play wsX6_in := goodIn_r _ [12] (by decide +kernel) (by decide +kernel)
set_option maxRecDepth 20000 in
theorem gX6_play_X6_in : GoodIn wsX6_play (va_wsS RX6 68 yX6_in wsX6_in) := goodIn_app (goodIn_of _ (by decide +kernel)) ggX6_play_X6_in
set_option maxRecDepth 20000 in
theorem ggX6_play_X6_plans : GoodIn wsX6_play wsX6_plans := goodIn_r _ [21, 9, 22, 23, 24, 25, 7, 26, 27, 28, 29, 30, 31, 32, 33, 34, 35, 36, 37, 38, 39, 40, 41, 42, 43, 44, 45, 46, 47, 48, 49, 50, 51, 52, 53, 54, 55, 56, 57, 58, 59, 60, 61, 62, 63, 64, 65, 66, 67, 68, 69, 79, 80, 81, 82, 83, 84, 85, 86, 87, 88, 89, 90, 91, 92, 93, 94, 95, 96, 97, 98, 99, 100, 101, 102, 103, 104, 105, 106, 107, 108, 109] (by decide +kernel) (by decide +kernel)
set_option maxRecDepth 20000 in
theorem gX6_play_X6_plans : GoodIn wsX6_play (wsV RX6 249 RX6 yX6_plans wsX6_plans) := goodIn_app (goodIn_of _ (by decide +kernel)) ggX6_play_X6_plans
set_option maxRecDepth 20000 in
theorem ggX6_play_X6_plays : GoodIn wsX6_play wsX6_plays := goodIn_r _ [73, 9, 74, 22, 1, 2, 3, 79, 80, 81, 82, 83, 84, 85, 86, 87, 88, 89, 90, 91, 92, 93, 94, 95, 96, 97, 98, 99, 100, 101, 102, 103, 104, 105, 106, 107, 108, 109] (by decide +kernel) (by decide +kernel)
set_option maxRecDepth 20000 in
theorem gX6_play_X6_plays : GoodIn wsX6_play (wsV RX6 252 RX6 yX6_plays wsX6_plays) := goodIn_app (goodIn_of _ (by decide +kernel)) ggX6_play_X6_plays
set_option maxRecDepth 20000 in
theorem ggX6_play_X6_told : GoodIn wsX6_play wsX6_told := goodIn_r _ [78, 17, 79, 80, 81, 82, 83, 84, 85, 86, 87, 88, 89, 90, 91, 92, 93, 94, 95, 96, 97, 98, 99, 100, 101, 102, 103, 104, 105, 106, 107, 108, 109] (by decide +kernel) (by decide +kernel)
set_option maxRecDepth 20000 in
theorem gX6_play_X6_told : GoodIn wsX6_play (wsV RX6 203 RX6 yX6_told wsX6_told) := goodIn_app (goodIn_of _ (by decide +kernel)) ggX6_play_X6_told
set_option maxRecDepth 20000 in
theorem ggX6_pull_X6_in : GoodIn wsX6_pull wsX6_in := goodIn_r _ [4] (by decide +kernel) (by decide +kernel)
set_option maxRecDepth 20000 in
theorem gX6_pull_X6_in : GoodIn wsX6_pull (va_wsS RX6 68 yX6_in wsX6_in) := goodIn_app (goodIn_of _ (by decide +kernel)) ggX6_pull_X6_in
set_option maxRecDepth 20000 in
theorem ggX6_pull_X6_isSet : GoodIn wsX6_pull wsX6_isSet := goodIn_r _ [8, 9, 35, 36, 37, 38, 39, 40, 41, 42, 43, 44, 45, 46, 47, 48, 49, 50, 51, 52, 53, 54, 55, 56, 57, 58, 59, 60, 61, 62, 63, 64, 65] (by decide +kernel) (by decide +kernel)
set_option maxRecDepth 20000 in
theorem gX6_pull_X6_isSet : GoodIn wsX6_pull (wsV RX6 255 RX6 yX6_isSet wsX6_isSet) := goodIn_app (goodIn_of _ (by decide +kernel)) ggX6_pull_X6_isSet
set_option maxRecDepth 20000 in
theorem ggX6_pull_X6_refuse : GoodIn wsX6_pull wsX6_refuse := goodIn_r _ [13, 14, 35, 36, 37, 38, 39, 40, 41, 42, 43, 44, 45, 46, 47, 48, 49, 50, 51, 52, 53, 54, 55, 56, 57, 58, 59, 60, 61, 62, 63, 64, 65] (by decide +kernel) (by decide +kernel)
set_option maxRecDepth 20000 in
theorem gX6_pull_X6_refuse : GoodIn wsX6_pull (wsV RX6 197 RX6 yX6_refuse wsX6_refuse) := goodIn_app (goodIn_of _ (by decide +kernel)) ggX6_pull_X6_refuse
set_option maxRecDepth 20000 in
theorem ggX6_pull_X6_pulls : GoodIn wsX6_pull wsX6_pulls := goodIn_r _ [18, 9, 19, 20, 21, 3, 22, 23, 24, 25, 26, 27, 28, 29, 30, 35, 36, 37, 38, 39, 40, 41, 42, 43, 44, 45, 46, 47, 48, 49, 50, 51, 52, 53, 54, 55, 56, 57, 58, 59, 60, 61, 62, 63, 64, 65] (by decide +kernel) (by decide +kernel)
set_option maxRecDepth 20000 in
theorem gX6_pull_X6_pulls : GoodIn wsX6_pull (wsV RX6 133 RX6 yX6_pulls wsX6_pulls) := goodIn_app (goodIn_of _ (by decide +kernel)) ggX6_pull_X6_pulls
set_option maxRecDepth 20000 in
theorem ggX6_pull_X6_told : GoodIn wsX6_pull wsX6_told := goodIn_r _ [34, 14, 35, 36, 37, 38, 39, 40, 41, 42, 43, 44, 45, 46, 47, 48, 49, 50, 51, 52, 53, 54, 55, 56, 57, 58, 59, 60, 61, 62, 63, 64, 65] (by decide +kernel) (by decide +kernel)
set_option maxRecDepth 20000 in
theorem gX6_pull_X6_told : GoodIn wsX6_pull (wsV RX6 203 RX6 yX6_told wsX6_told) := goodIn_app (goodIn_of _ (by decide +kernel)) ggX6_pull_X6_told
set_option maxRecDepth 20000 in
theorem ggX6_pullIn_X6_isPlace : GoodIn wsX6_pullIn wsX6_isPlace := goodIn_r _ [6, 7, 8, 9, 5, 10, 39, 40, 41, 42, 43, 44, 45, 46, 47, 48, 49, 50, 51, 52, 53, 54, 55, 56, 57, 58, 59, 60, 61, 62, 63, 64, 65, 66, 67, 68, 69] (by decide +kernel) (by decide +kernel)
set_option maxRecDepth 20000 in
theorem gX6_pullIn_X6_isPlace : GoodIn wsX6_pullIn (wsV RX6 173 RX6 yX6_isPlace wsX6_isPlace) := goodIn_app (goodIn_of _ (by decide +kernel)) ggX6_pullIn_X6_isPlace
set_option maxRecDepth 20000 in
theorem ggX6_pullIn_X6_refuse : GoodIn wsX6_pullIn wsX6_refuse := goodIn_r _ [14, 15, 39, 40, 41, 42, 43, 44, 45, 46, 47, 48, 49, 50, 51, 52, 53, 54, 55, 56, 57, 58, 59, 60, 61, 62, 63, 64, 65, 66, 67, 68, 69] (by decide +kernel) (by decide +kernel)
set_option maxRecDepth 20000 in
theorem gX6_pullIn_X6_refuse : GoodIn wsX6_pullIn (wsV RX6 197 RX6 yX6_refuse wsX6_refuse) := goodIn_app (goodIn_of _ (by decide +kernel)) ggX6_pullIn_X6_refuse
set_option maxRecDepth 20000 in
theorem ggX6_pullIn_X6_in : GoodIn wsX6_pullIn wsX6_in := goodIn_r _ [10] (by decide +kernel) (by decide +kernel)
set_option maxRecDepth 20000 in
theorem gX6_pullIn_X6_in : GoodIn wsX6_pullIn (va_wsS RX6 68 yX6_in wsX6_in) := goodIn_app (goodIn_of _ (by decide +kernel)) ggX6_pullIn_X6_in
set_option maxRecDepth 20000 in
theorem ggX6_pullIn_X6_isSet : GoodIn wsX6_pullIn wsX6_isSet := goodIn_r _ [19, 7, 39, 40, 41, 42, 43, 44, 45, 46, 47, 48, 49, 50, 51, 52, 53, 54, 55, 56, 57, 58, 59, 60, 61, 62, 63, 64, 65, 66, 67, 68, 69] (by decide +kernel) (by decide +kernel)
set_option maxRecDepth 20000 in
theorem gX6_pullIn_X6_isSet : GoodIn wsX6_pullIn (wsV RX6 255 RX6 yX6_isSet wsX6_isSet) := goodIn_app (goodIn_of _ (by decide +kernel)) ggX6_pullIn_X6_isSet
set_option maxRecDepth 20000 in
theorem ggX6_pullIn_X6_pulls : GoodIn wsX6_pullIn wsX6_pulls := goodIn_r _ [23, 7, 1, 24, 25, 5, 26, 27, 28, 29, 30, 31, 32, 33, 34, 39, 40, 41, 42, 43, 44, 45, 46, 47, 48, 49, 50, 51, 52, 53, 54, 55, 56, 57, 58, 59, 60, 61, 62, 63, 64, 65, 66, 67, 68, 69] (by decide +kernel) (by decide +kernel)
set_option maxRecDepth 20000 in
theorem gX6_pullIn_X6_pulls : GoodIn wsX6_pullIn (wsV RX6 133 RX6 yX6_pulls wsX6_pulls) := goodIn_app (goodIn_of _ (by decide +kernel)) ggX6_pullIn_X6_pulls
set_option maxRecDepth 20000 in
theorem ggX6_pullIn_X6_has : GoodIn wsX6_pullIn wsX6_has := goodIn_r _ [26] (by decide +kernel) (by decide +kernel)
set_option maxRecDepth 20000 in
theorem gX6_pullIn_X6_has : GoodIn wsX6_pullIn (va_wsS RX6 102 yX6_has wsX6_has) := goodIn_app (goodIn_of _ (by decide +kernel)) ggX6_pullIn_X6_has
set_option maxRecDepth 20000 in
theorem ggX6_pullIn_X6_told : GoodIn wsX6_pullIn wsX6_told := goodIn_r _ [38, 15, 39, 40, 41, 42, 43, 44, 45, 46, 47, 48, 49, 50, 51, 52, 53, 54, 55, 56, 57, 58, 59, 60, 61, 62, 63, 64, 65, 66, 67, 68, 69] (by decide +kernel) (by decide +kernel)
set_option maxRecDepth 20000 in
theorem gX6_pullIn_X6_told : GoodIn wsX6_pullIn (wsV RX6 203 RX6 yX6_told wsX6_told) := goodIn_app (goodIn_of _ (by decide +kernel)) ggX6_pullIn_X6_told
set_option maxRecDepth 20000 in
theorem ggX6_stay_X6_in : GoodIn wsX6_stay wsX6_in := goodIn_r _ [4] (by decide +kernel) (by decide +kernel)
set_option maxRecDepth 20000 in
theorem gX6_stay_X6_in : GoodIn wsX6_stay (va_wsS RX6 68 yX6_in wsX6_in) := goodIn_app (goodIn_of _ (by decide +kernel)) ggX6_stay_X6_in
set_option maxRecDepth 20000 in
theorem ggX6_stay_X6_isSet : GoodIn wsX6_stay wsX6_isSet := goodIn_r _ [8, 9, 30, 31, 32, 33, 34, 35, 36, 37, 38, 39, 40, 41, 42, 43, 44, 45, 46, 47, 48, 49, 50, 51, 52, 53, 54, 55, 56, 57, 58, 59, 60] (by decide +kernel) (by decide +kernel)
set_option maxRecDepth 20000 in
theorem gX6_stay_X6_isSet : GoodIn wsX6_stay (wsV RX6 255 RX6 yX6_isSet wsX6_isSet) := goodIn_app (goodIn_of _ (by decide +kernel)) ggX6_stay_X6_isSet
set_option maxRecDepth 20000 in
theorem ggX6_stay_X6_refuse : GoodIn wsX6_stay wsX6_refuse := goodIn_r _ [13, 14, 30, 31, 32, 33, 34, 35, 36, 37, 38, 39, 40, 41, 42, 43, 44, 45, 46, 47, 48, 49, 50, 51, 52, 53, 54, 55, 56, 57, 58, 59, 60] (by decide +kernel) (by decide +kernel)
set_option maxRecDepth 20000 in
theorem gX6_stay_X6_refuse : GoodIn wsX6_stay (wsV RX6 197 RX6 yX6_refuse wsX6_refuse) := goodIn_app (goodIn_of _ (by decide +kernel)) ggX6_stay_X6_refuse
set_option maxRecDepth 20000 in
theorem ggX6_stay_X6_stays : GoodIn wsX6_stay wsX6_stays := goodIn_r _ [18, 9, 19, 20, 3, 21, 22, 23, 24, 25, 30, 31, 32, 33, 34, 35, 36, 37, 38, 39, 40, 41, 42, 43, 44, 45, 46, 47, 48, 49, 50, 51, 52, 53, 54, 55, 56, 57, 58, 59, 60] (by decide +kernel) (by decide +kernel)
set_option maxRecDepth 20000 in
theorem gX6_stay_X6_stays : GoodIn wsX6_stay (wsV RX6 258 RX6 yX6_stays wsX6_stays) := goodIn_app (goodIn_of _ (by decide +kernel)) ggX6_stay_X6_stays
set_option maxRecDepth 20000 in
theorem ggX6_stay_X6_told : GoodIn wsX6_stay wsX6_told := goodIn_r _ [29, 14, 30, 31, 32, 33, 34, 35, 36, 37, 38, 39, 40, 41, 42, 43, 44, 45, 46, 47, 48, 49, 50, 51, 52, 53, 54, 55, 56, 57, 58, 59, 60] (by decide +kernel) (by decide +kernel)
set_option maxRecDepth 20000 in
theorem gX6_stay_X6_told : GoodIn wsX6_stay (wsV RX6 203 RX6 yX6_told wsX6_told) := goodIn_app (goodIn_of _ (by decide +kernel)) ggX6_stay_X6_told
set_option maxRecDepth 20000 in
theorem ggX6_comeBack_X6_in : GoodIn wsX6_comeBack wsX6_in := goodIn_r _ [4] (by decide +kernel) (by decide +kernel)
set_option maxRecDepth 20000 in
theorem gX6_comeBack_X6_in : GoodIn wsX6_comeBack (va_wsS RX6 68 yX6_in wsX6_in) := goodIn_app (goodIn_of _ (by decide +kernel)) ggX6_comeBack_X6_in
set_option maxRecDepth 20000 in
theorem ggX6_comeBack_X6_isSet : GoodIn wsX6_comeBack wsX6_isSet := goodIn_r _ [8, 9, 43, 44, 45, 46, 47, 48, 49, 50, 51, 52, 53, 54, 55, 56, 57, 58, 59, 60, 61, 62, 63, 64, 65, 66, 67, 68, 69, 70, 71, 72, 73] (by decide +kernel) (by decide +kernel)
set_option maxRecDepth 20000 in
theorem gX6_comeBack_X6_isSet : GoodIn wsX6_comeBack (wsV RX6 255 RX6 yX6_isSet wsX6_isSet) := goodIn_app (goodIn_of _ (by decide +kernel)) ggX6_comeBack_X6_isSet
set_option maxRecDepth 20000 in
theorem ggX6_comeBack_X6_refuse : GoodIn wsX6_comeBack wsX6_refuse := goodIn_r _ [13, 14, 43, 44, 45, 46, 47, 48, 49, 50, 51, 52, 53, 54, 55, 56, 57, 58, 59, 60, 61, 62, 63, 64, 65, 66, 67, 68, 69, 70, 71, 72, 73] (by decide +kernel) (by decide +kernel)
set_option maxRecDepth 20000 in
theorem gX6_comeBack_X6_refuse : GoodIn wsX6_comeBack (wsV RX6 197 RX6 yX6_refuse wsX6_refuse) := goodIn_app (goodIn_of _ (by decide +kernel)) ggX6_comeBack_X6_refuse
set_option maxRecDepth 20000 in
theorem ggX6_comeBack_X6_comesBack : GoodIn wsX6_comeBack wsX6_comesBack := goodIn_r _ [18, 19, 20, 21, 3, 22, 9, 23, 24, 25, 26, 27, 28, 29, 30, 31, 32, 33, 34, 35, 36, 37, 38, 43, 44, 45, 46, 47, 48, 49, 50, 51, 52, 53, 54, 55, 56, 57, 58, 59, 60, 61, 62, 63, 64, 65, 66, 67, 68, 69, 70, 71, 72, 73] (by decide +kernel) (by decide +kernel)
set_option maxRecDepth 20000 in
theorem gX6_comeBack_X6_comesBack : GoodIn wsX6_comeBack (wsV RX6 261 RX6 yX6_comesBack wsX6_comesBack) := goodIn_app (goodIn_of _ (by decide +kernel)) ggX6_comeBack_X6_comesBack
set_option maxRecDepth 20000 in
theorem ggX6_comeBack_X6_told : GoodIn wsX6_comeBack wsX6_told := goodIn_r _ [42, 14, 43, 44, 45, 46, 47, 48, 49, 50, 51, 52, 53, 54, 55, 56, 57, 58, 59, 60, 61, 62, 63, 64, 65, 66, 67, 68, 69, 70, 71, 72, 73] (by decide +kernel) (by decide +kernel)
set_option maxRecDepth 20000 in
theorem gX6_comeBack_X6_told : GoodIn wsX6_comeBack (wsV RX6 203 RX6 yX6_told wsX6_told) := goodIn_app (goodIn_of _ (by decide +kernel)) ggX6_comeBack_X6_told
set_option maxRecDepth 20000 in
theorem ggX6_isTrap_X6_in : GoodIn wsX6_isTrap wsX6_in := goodIn_r _ [6] (by decide +kernel) (by decide +kernel)
set_option maxRecDepth 20000 in
theorem gX6_isTrap_X6_in : GoodIn wsX6_isTrap (va_wsS RX6 68 yX6_in wsX6_in) := goodIn_app (goodIn_of _ (by decide +kernel)) ggX6_isTrap_X6_in
set_option maxRecDepth 20000 in
theorem ggX6_isTrap_X6_isSet : GoodIn wsX6_isTrap wsX6_isSet := goodIn_r _ [10, 2, 18, 19, 20, 21, 22, 23, 24, 25, 26, 27, 28, 29, 30, 31, 32, 33, 34, 35, 36, 37, 38, 39, 40, 41, 42, 43, 44, 45, 46, 47, 48] (by decide +kernel) (by decide +kernel)
set_option maxRecDepth 20000 in
theorem gX6_isTrap_X6_isSet : GoodIn wsX6_isTrap (wsV RX6 255 RX6 yX6_isSet wsX6_isSet) := goodIn_app (goodIn_of _ (by decide +kernel)) ggX6_isTrap_X6_isSet
set_option maxRecDepth 20000 in
theorem ggX6_isTrap_X6_has : GoodIn wsX6_isTrap wsX6_has := goodIn_r _ [13] (by decide +kernel) (by decide +kernel)
set_option maxRecDepth 20000 in
theorem gX6_isTrap_X6_has : GoodIn wsX6_isTrap (va_wsS RX6 102 yX6_has wsX6_has) := goodIn_app (goodIn_of _ (by decide +kernel)) ggX6_isTrap_X6_has
set_option maxRecDepth 20000 in
theorem ggX6_isTrap_X6_movesAt : GoodIn wsX6_isTrap wsX6_movesAt := goodIn_r _ [17, 2, 18, 19, 20, 21, 22, 23, 24, 25, 26, 27, 28, 29, 30, 31, 32, 33, 34, 35, 36, 37, 38, 39, 40, 41, 42, 43, 44, 45, 46, 47, 48] (by decide +kernel) (by decide +kernel)
set_option maxRecDepth 20000 in
theorem gX6_isTrap_X6_movesAt : GoodIn wsX6_isTrap (wsV RX6 224 RX6 yX6_movesAt wsX6_movesAt) := goodIn_app (goodIn_of _ (by decide +kernel)) ggX6_isTrap_X6_movesAt
set_option maxRecDepth 20000 in
theorem ggX6_canHear_X6_in : GoodIn wsX6_canHear wsX6_in := goodIn_r _ [5] (by decide +kernel) (by decide +kernel)
set_option maxRecDepth 20000 in
theorem gX6_canHear_X6_in : GoodIn wsX6_canHear (va_wsS RX6 68 yX6_in wsX6_in) := goodIn_app (goodIn_of _ (by decide +kernel)) ggX6_canHear_X6_in
set_option maxRecDepth 20000 in
theorem ggX6_canHear_X6_refuse : GoodIn wsX6_canHear wsX6_refuse := goodIn_r _ [9, 10, 39, 40, 41, 42, 43, 44, 45, 46, 47, 48, 49, 50, 51, 52, 53, 54, 55, 56, 57, 58, 59, 60, 61, 62, 63, 64, 65, 66, 67, 68, 69] (by decide +kernel) (by decide +kernel)
set_option maxRecDepth 20000 in
theorem gX6_canHear_X6_refuse : GoodIn wsX6_canHear (wsV RX6 197 RX6 yX6_refuse wsX6_refuse) := goodIn_app (goodIn_of _ (by decide +kernel)) ggX6_canHear_X6_refuse
set_option maxRecDepth 20000 in
theorem ggX6_canHear_X6_comesBack : GoodIn wsX6_canHear wsX6_comesBack := goodIn_r _ [14, 15, 16, 17, 4, 18, 1, 19, 20, 21, 22, 23, 24, 25, 26, 27, 28, 29, 30, 31, 32, 33, 34, 39, 40, 41, 42, 43, 44, 45, 46, 47, 48, 49, 50, 51, 52, 53, 54, 55, 56, 57, 58, 59, 60, 61, 62, 63, 64, 65, 66, 67, 68, 69] (by decide +kernel) (by decide +kernel)
set_option maxRecDepth 20000 in
theorem gX6_canHear_X6_comesBack : GoodIn wsX6_canHear (wsV RX6 261 RX6 yX6_comesBack wsX6_comesBack) := goodIn_app (goodIn_of _ (by decide +kernel)) ggX6_canHear_X6_comesBack
set_option maxRecDepth 20000 in
theorem ggX6_canHear_X6_told : GoodIn wsX6_canHear wsX6_told := goodIn_r _ [38, 10, 39, 40, 41, 42, 43, 44, 45, 46, 47, 48, 49, 50, 51, 52, 53, 54, 55, 56, 57, 58, 59, 60, 61, 62, 63, 64, 65, 66, 67, 68, 69] (by decide +kernel) (by decide +kernel)
set_option maxRecDepth 20000 in
theorem gX6_canHear_X6_told : GoodIn wsX6_canHear (wsV RX6 203 RX6 yX6_told wsX6_told) := goodIn_app (goodIn_of _ (by decide +kernel)) ggX6_canHear_X6_told
set_option maxRecDepth 20000 in
theorem ggX6_wonIfCall_X6_isPlace : GoodIn wsX6_wonIfCall wsX6_isPlace := goodIn_r _ [6, 1, 7, 8, 5, 9, 47, 48, 49, 50, 51, 52, 53, 54, 55, 56, 57, 58, 59, 60, 61, 62, 63, 64, 65, 66, 67, 68, 69, 70, 71, 72, 73, 74, 75, 76, 77] (by decide +kernel) (by decide +kernel)
set_option maxRecDepth 20000 in
theorem gX6_wonIfCall_X6_isPlace : GoodIn wsX6_wonIfCall (wsV RX6 173 RX6 yX6_isPlace wsX6_isPlace) := goodIn_app (goodIn_of _ (by decide +kernel)) ggX6_wonIfCall_X6_isPlace
set_option maxRecDepth 20000 in
theorem ggX6_wonIfCall_X6_refuse : GoodIn wsX6_wonIfCall wsX6_refuse := goodIn_r _ [13, 14, 47, 48, 49, 50, 51, 52, 53, 54, 55, 56, 57, 58, 59, 60, 61, 62, 63, 64, 65, 66, 67, 68, 69, 70, 71, 72, 73, 74, 75, 76, 77] (by decide +kernel) (by decide +kernel)
set_option maxRecDepth 20000 in
theorem gX6_wonIfCall_X6_refuse : GoodIn wsX6_wonIfCall (wsV RX6 197 RX6 yX6_refuse wsX6_refuse) := goodIn_app (goodIn_of _ (by decide +kernel)) ggX6_wonIfCall_X6_refuse
set_option maxRecDepth 20000 in
theorem ggX6_wonIfCall_X6_in : GoodIn wsX6_wonIfCall wsX6_in := goodIn_r _ [9] (by decide +kernel) (by decide +kernel)
set_option maxRecDepth 20000 in
theorem gX6_wonIfCall_X6_in : GoodIn wsX6_wonIfCall (va_wsS RX6 68 yX6_in wsX6_in) := goodIn_app (goodIn_of _ (by decide +kernel)) ggX6_wonIfCall_X6_in
set_option maxRecDepth 20000 in
theorem ggX6_wonIfCall_X6_wonByEven : GoodIn wsX6_wonIfCall wsX6_wonByEven := goodIn_r _ [18, 19, 20, 21, 5, 22, 1, 23, 24, 25, 26, 27, 28, 29, 30, 31, 32, 33, 34, 35, 36, 37, 38, 39, 40, 41, 42, 47, 48, 49, 50, 51, 52, 53, 54, 55, 56, 57, 58, 59, 60, 61, 62, 63, 64, 65, 66, 67, 68, 69, 70, 71, 72, 73, 74, 75, 76, 77] (by decide +kernel) (by decide +kernel)
set_option maxRecDepth 20000 in
theorem gX6_wonIfCall_X6_wonByEven : GoodIn wsX6_wonIfCall (wsV RX6 96 RX6 yX6_wonByEven wsX6_wonByEven) := goodIn_app (goodIn_of _ (by decide +kernel)) ggX6_wonIfCall_X6_wonByEven
set_option maxRecDepth 20000 in
theorem ggX6_wonIfCall_X6_told : GoodIn wsX6_wonIfCall wsX6_told := goodIn_r _ [46, 14, 47, 48, 49, 50, 51, 52, 53, 54, 55, 56, 57, 58, 59, 60, 61, 62, 63, 64, 65, 66, 67, 68, 69, 70, 71, 72, 73, 74, 75, 76, 77] (by decide +kernel) (by decide +kernel)
set_option maxRecDepth 20000 in
theorem gX6_wonIfCall_X6_told : GoodIn wsX6_wonIfCall (wsV RX6 203 RX6 yX6_told wsX6_told) := goodIn_app (goodIn_of _ (by decide +kernel)) ggX6_wonIfCall_X6_told
set_option maxRecDepth 20000 in
theorem ggX6_wonOther_X6_wonByEven : GoodIn wsX6_wonOther wsX6_wonByEven := goodIn_r _ [6, 7, 8, 9, 5, 10, 1, 11, 12, 13, 14, 15, 16, 17, 18, 19, 20, 21, 22, 23, 24, 25, 26, 27, 28, 29, 30, 31, 32, 33, 34, 35, 36, 37, 38, 39, 40, 41, 42, 43, 44, 45, 46, 47, 48, 49, 50, 51, 52, 53, 54, 55, 56, 57, 58, 59, 60, 61] (by decide +kernel) (by decide +kernel)
set_option maxRecDepth 20000 in
theorem gX6_wonOther_X6_wonByEven : GoodIn wsX6_wonOther (wsV RX6 96 RX6 yX6_wonByEven wsX6_wonByEven) := goodIn_app (goodIn_of _ (by decide +kernel)) ggX6_wonOther_X6_wonByEven
set_option maxRecDepth 20000 in
theorem ggX6_wonIfOther_X6_isPlace : GoodIn wsX6_wonIfOther wsX6_isPlace := goodIn_r _ [5, 6, 7, 8, 4, 9, 51, 52, 53, 54, 55, 56, 57, 58, 59, 60, 61, 62, 63, 64, 65, 66, 67, 68, 69, 70, 71, 72, 73, 74, 75, 76, 77, 78, 79, 80, 81] (by decide +kernel) (by decide +kernel)
set_option maxRecDepth 20000 in
theorem gX6_wonIfOther_X6_isPlace : GoodIn wsX6_wonIfOther (wsV RX6 173 RX6 yX6_isPlace wsX6_isPlace) := goodIn_app (goodIn_of _ (by decide +kernel)) ggX6_wonIfOther_X6_isPlace
set_option maxRecDepth 20000 in
theorem ggX6_wonIfOther_X6_refuse : GoodIn wsX6_wonIfOther wsX6_refuse := goodIn_r _ [13, 14, 51, 52, 53, 54, 55, 56, 57, 58, 59, 60, 61, 62, 63, 64, 65, 66, 67, 68, 69, 70, 71, 72, 73, 74, 75, 76, 77, 78, 79, 80, 81] (by decide +kernel) (by decide +kernel)
set_option maxRecDepth 20000 in
theorem gX6_wonIfOther_X6_refuse : GoodIn wsX6_wonIfOther (wsV RX6 197 RX6 yX6_refuse wsX6_refuse) := goodIn_app (goodIn_of _ (by decide +kernel)) ggX6_wonIfOther_X6_refuse
set_option maxRecDepth 20000 in
theorem ggX6_wonIfOther_X6_wonOther : GoodIn wsX6_wonIfOther wsX6_wonOther := goodIn_r _ [18, 6, 19, 20, 21, 4, 22, 23, 24, 25, 26, 27, 28, 29, 30, 31, 32, 33, 34, 35, 36, 37, 38, 39, 40, 41, 42, 43, 44, 45, 46, 51, 52, 53, 54, 55, 56, 57, 58, 59, 60, 61, 62, 63, 64, 65, 66, 67, 68, 69, 70, 71, 72, 73, 74, 75, 76, 77, 78, 79, 80, 81] (by decide +kernel) (by decide +kernel)
set_option maxRecDepth 20000 in
theorem gX6_wonIfOther_X6_wonOther : GoodIn wsX6_wonIfOther (wsV RX6 264 RX6 yX6_wonOther wsX6_wonOther) := goodIn_app (goodIn_of _ (by decide +kernel)) ggX6_wonIfOther_X6_wonOther
set_option maxRecDepth 20000 in
theorem ggX6_wonIfOther_X6_told : GoodIn wsX6_wonIfOther wsX6_told := goodIn_r _ [50, 14, 51, 52, 53, 54, 55, 56, 57, 58, 59, 60, 61, 62, 63, 64, 65, 66, 67, 68, 69, 70, 71, 72, 73, 74, 75, 76, 77, 78, 79, 80, 81] (by decide +kernel) (by decide +kernel)
set_option maxRecDepth 20000 in
theorem gX6_wonIfOther_X6_told : GoodIn wsX6_wonIfOther (wsV RX6 203 RX6 yX6_told wsX6_told) := goodIn_app (goodIn_of _ (by decide +kernel)) ggX6_wonIfOther_X6_told
set_option maxRecDepth 20000 in
theorem ggX6_wonBut_X6_looksAtAll : GoodIn wsX6_wonBut wsX6_looksAtAll := goodIn_r _ [6, 7, 1, 27, 28, 29, 30, 31, 32, 33, 34, 35, 36, 37, 38, 39, 40, 41, 42, 43, 44, 45, 46, 47, 48, 49, 50, 51, 52, 53, 54, 55, 56, 57] (by decide +kernel) (by decide +kernel)
set_option maxRecDepth 20000 in
theorem gX6_wonBut_X6_looksAtAll : GoodIn wsX6_wonBut (wsV RX6 89 RX6 yX6_looksAtAll wsX6_looksAtAll) := goodIn_app (goodIn_of _ (by decide +kernel)) ggX6_wonBut_X6_looksAtAll
set_option maxRecDepth 20000 in
theorem ggX6_wonBut_X6_solved : GoodIn wsX6_wonBut wsX6_solved := goodIn_r _ [11, 7, 12, 13, 14, 15, 16, 5, 17, 18, 19, 20, 21, 22, 1, 23, 24, 25, 26, 27, 28, 29, 30, 31, 32, 33, 34, 35, 36, 37, 38, 39, 40, 41, 42, 43, 44, 45, 46, 47, 48, 49, 50, 51, 52, 53, 54, 55, 56, 57] (by decide +kernel) (by decide +kernel)
set_option maxRecDepth 20000 in
theorem gX6_wonBut_X6_solved : GoodIn wsX6_wonBut (wsV RX6 92 RX6 yX6_solved wsX6_solved) := goodIn_app (goodIn_of _ (by decide +kernel)) ggX6_wonBut_X6_solved
set_option maxRecDepth 20000 in
theorem ggX6_wonWithout_X6_isMove : GoodIn wsX6_wonWithout wsX6_isMove := goodIn_r _ [5, 6, 7, 8, 4, 9, 47, 48, 49, 50, 51, 52, 53, 54, 55, 56, 57, 58, 59, 60, 61, 62, 63, 64, 65, 66, 67, 68, 69, 70, 71, 72, 73, 74, 75, 76, 77] (by decide +kernel) (by decide +kernel)
set_option maxRecDepth 20000 in
theorem gX6_wonWithout_X6_isMove : GoodIn wsX6_wonWithout (wsV RX6 230 RX6 yX6_isMove wsX6_isMove) := goodIn_app (goodIn_of _ (by decide +kernel)) ggX6_wonWithout_X6_isMove
set_option maxRecDepth 20000 in
theorem ggX6_wonWithout_X6_refuse : GoodIn wsX6_wonWithout wsX6_refuse := goodIn_r _ [13, 14, 47, 48, 49, 50, 51, 52, 53, 54, 55, 56, 57, 58, 59, 60, 61, 62, 63, 64, 65, 66, 67, 68, 69, 70, 71, 72, 73, 74, 75, 76, 77] (by decide +kernel) (by decide +kernel)
set_option maxRecDepth 20000 in
theorem gX6_wonWithout_X6_refuse : GoodIn wsX6_wonWithout (wsV RX6 197 RX6 yX6_refuse wsX6_refuse) := goodIn_app (goodIn_of _ (by decide +kernel)) ggX6_wonWithout_X6_refuse
set_option maxRecDepth 20000 in
theorem ggX6_wonWithout_X6_wonBut : GoodIn wsX6_wonWithout wsX6_wonBut := goodIn_r _ [18, 19, 20, 21, 22, 4, 23, 6, 24, 25, 26, 27, 28, 29, 30, 31, 32, 33, 34, 35, 36, 37, 38, 39, 40, 41, 42, 47, 48, 49, 50, 51, 52, 53, 54, 55, 56, 57, 58, 59, 60, 61, 62, 63, 64, 65, 66, 67, 68, 69, 70, 71, 72, 73, 74, 75, 76, 77] (by decide +kernel) (by decide +kernel)
set_option maxRecDepth 20000 in
theorem gX6_wonWithout_X6_wonBut : GoodIn wsX6_wonWithout (wsV RX6 267 RX6 yX6_wonBut wsX6_wonBut) := goodIn_app (goodIn_of _ (by decide +kernel)) ggX6_wonWithout_X6_wonBut
set_option maxRecDepth 20000 in
theorem ggX6_wonWithout_X6_told : GoodIn wsX6_wonWithout wsX6_told := goodIn_r _ [46, 14, 47, 48, 49, 50, 51, 52, 53, 54, 55, 56, 57, 58, 59, 60, 61, 62, 63, 64, 65, 66, 67, 68, 69, 70, 71, 72, 73, 74, 75, 76, 77] (by decide +kernel) (by decide +kernel)
set_option maxRecDepth 20000 in
theorem gX6_wonWithout_X6_told : GoodIn wsX6_wonWithout (wsV RX6 203 RX6 yX6_told wsX6_told) := goodIn_app (goodIn_of _ (by decide +kernel)) ggX6_wonWithout_X6_told
set_option maxRecDepth 20000 in
theorem ggX6_wonWith_X6_isPlace : GoodIn wsX6_wonWith wsX6_isPlace := goodIn_r _ [6, 1, 7, 8, 5, 9, 55, 56, 57, 58, 59, 60, 61, 62, 63, 64, 65, 66, 67, 68, 69, 70, 71, 72, 73, 74, 75, 76, 77, 78, 79, 80, 81, 82, 83, 84, 85] (by decide +kernel) (by decide +kernel)
set_option maxRecDepth 20000 in
theorem gX6_wonWith_X6_isPlace : GoodIn wsX6_wonWith (wsV RX6 173 RX6 yX6_isPlace wsX6_isPlace) := goodIn_app (goodIn_of _ (by decide +kernel)) ggX6_wonWith_X6_isPlace
set_option maxRecDepth 20000 in
theorem ggX6_wonWith_X6_refuse : GoodIn wsX6_wonWith wsX6_refuse := goodIn_r _ [13, 14, 55, 56, 57, 58, 59, 60, 61, 62, 63, 64, 65, 66, 67, 68, 69, 70, 71, 72, 73, 74, 75, 76, 77, 78, 79, 80, 81, 82, 83, 84, 85] (by decide +kernel) (by decide +kernel)
set_option maxRecDepth 20000 in
theorem gX6_wonWith_X6_refuse : GoodIn wsX6_wonWith (wsV RX6 197 RX6 yX6_refuse wsX6_refuse) := goodIn_app (goodIn_of _ (by decide +kernel)) ggX6_wonWith_X6_refuse
set_option maxRecDepth 20000 in
theorem ggX6_wonWith_X6_between : GoodIn wsX6_wonWith wsX6_between := goodIn_r _ [18, 1, 55, 56, 57, 58, 59, 60, 61, 62, 63, 64, 65, 66, 67, 68, 69, 70, 71, 72, 73, 74, 75, 76, 77, 78, 79, 80, 81, 82, 83, 84, 85] (by decide +kernel) (by decide +kernel)
set_option maxRecDepth 20000 in
theorem gX6_wonWith_X6_between : GoodIn wsX6_wonWith (wsV RX6 179 RX6 yX6_between wsX6_between) := goodIn_app (goodIn_of _ (by decide +kernel)) ggX6_wonWith_X6_between
set_option maxRecDepth 20000 in
theorem ggX6_wonWith_X6_wonByEven : GoodIn wsX6_wonWith wsX6_wonByEven := goodIn_r _ [22, 23, 24, 25, 5, 26, 1, 27, 28, 29, 30, 31, 32, 33, 34, 35, 36, 37, 38, 39, 40, 41, 42, 43, 44, 45, 46, 55, 56, 57, 58, 59, 60, 61, 62, 63, 64, 65, 66, 67, 68, 69, 70, 71, 72, 73, 74, 75, 76, 77, 78, 79, 80, 81, 82, 83, 84, 85] (by decide +kernel) (by decide +kernel)
set_option maxRecDepth 20000 in
theorem gX6_wonWith_X6_wonByEven : GoodIn wsX6_wonWith (wsV RX6 96 RX6 yX6_wonByEven wsX6_wonByEven) := goodIn_app (goodIn_of _ (by decide +kernel)) ggX6_wonWith_X6_wonByEven
set_option maxRecDepth 20000 in
theorem ggX6_wonWith_X6_told : GoodIn wsX6_wonWith wsX6_told := goodIn_r _ [50, 14, 55, 56, 57, 58, 59, 60, 61, 62, 63, 64, 65, 66, 67, 68, 69, 70, 71, 72, 73, 74, 75, 76, 77, 78, 79, 80, 81, 82, 83, 84, 85] (by decide +kernel) (by decide +kernel)
set_option maxRecDepth 20000 in
theorem gX6_wonWith_X6_told : GoodIn wsX6_wonWith (wsV RX6 203 RX6 yX6_told wsX6_told) := goodIn_app (goodIn_of _ (by decide +kernel)) ggX6_wonWith_X6_told
set_option maxRecDepth 20000 in
theorem ggX6_wonWith_X6_leads : GoodIn wsX6_wonWith wsX6_leads := goodIn_r _ [54, 1, 55, 56, 57, 58, 59, 60, 61, 62, 63, 64, 65, 66, 67, 68, 69, 70, 71, 72, 73, 74, 75, 76, 77, 78, 79, 80, 81, 82, 83, 84, 85] (by decide +kernel) (by decide +kernel)
set_option maxRecDepth 20000 in
theorem gX6_wonWith_X6_leads : GoodIn wsX6_wonWith (wsV RX6 58 RX6 yX6_leads wsX6_leads) := goodIn_app (goodIn_of _ (by decide +kernel)) ggX6_wonWith_X6_leads
set_option maxRecDepth 20000 in
theorem ggX6_leastCall_X6_isPlace : GoodIn wsX6_leastCall wsX6_isPlace := goodIn_r _ [6, 1, 7, 8, 5, 9, 54, 55, 56, 57, 58, 59, 60, 61, 62, 63, 64, 65, 66, 67, 68, 69, 70, 71, 72, 73, 74, 75, 76, 77, 78, 79, 80, 81, 82, 83, 84] (by decide +kernel) (by decide +kernel)
set_option maxRecDepth 20000 in
theorem gX6_leastCall_X6_isPlace : GoodIn wsX6_leastCall (wsV RX6 173 RX6 yX6_isPlace wsX6_isPlace) := goodIn_app (goodIn_of _ (by decide +kernel)) ggX6_leastCall_X6_isPlace
set_option maxRecDepth 20000 in
theorem ggX6_leastCall_X6_refuse : GoodIn wsX6_leastCall wsX6_refuse := goodIn_r _ [13, 14, 54, 55, 56, 57, 58, 59, 60, 61, 62, 63, 64, 65, 66, 67, 68, 69, 70, 71, 72, 73, 74, 75, 76, 77, 78, 79, 80, 81, 82, 83, 84] (by decide +kernel) (by decide +kernel)
set_option maxRecDepth 20000 in
theorem gX6_leastCall_X6_refuse : GoodIn wsX6_leastCall (wsV RX6 197 RX6 yX6_refuse wsX6_refuse) := goodIn_app (goodIn_of _ (by decide +kernel)) ggX6_leastCall_X6_refuse
set_option maxRecDepth 20000 in
theorem ggX6_leastCall_X6_in : GoodIn wsX6_leastCall wsX6_in := goodIn_r _ [9] (by decide +kernel) (by decide +kernel)
set_option maxRecDepth 20000 in
theorem gX6_leastCall_X6_in : GoodIn wsX6_leastCall (va_wsS RX6 68 yX6_in wsX6_in) := goodIn_app (goodIn_of _ (by decide +kernel)) ggX6_leastCall_X6_in
set_option maxRecDepth 20000 in
theorem ggX6_leastCall_X6_winner : GoodIn wsX6_leastCall wsX6_winner := goodIn_r _ [18, 19, 20, 21, 5, 22, 23, 24, 25, 26, 1, 27, 28, 29, 30, 31, 32, 33, 34, 35, 36, 37, 38, 39, 40, 41, 42, 43, 44, 45, 46, 47, 48, 49, 54, 55, 56, 57, 58, 59, 60, 61, 62, 63, 64, 65, 66, 67, 68, 69, 70, 71, 72, 73, 74, 75, 76, 77, 78, 79, 80, 81, 82, 83, 84] (by decide +kernel) (by decide +kernel)
set_option maxRecDepth 20000 in
theorem gX6_leastCall_X6_winner : GoodIn wsX6_leastCall (wsV RX6 227 RX6 yX6_winner wsX6_winner) := goodIn_app (goodIn_of _ (by decide +kernel)) ggX6_leastCall_X6_winner
set_option maxRecDepth 20000 in
theorem ggX6_leastCall_X6_told : GoodIn wsX6_leastCall wsX6_told := goodIn_r _ [53, 14, 54, 55, 56, 57, 58, 59, 60, 61, 62, 63, 64, 65, 66, 67, 68, 69, 70, 71, 72, 73, 74, 75, 76, 77, 78, 79, 80, 81, 82, 83, 84] (by decide +kernel) (by decide +kernel)
set_option maxRecDepth 20000 in
theorem gX6_leastCall_X6_told : GoodIn wsX6_leastCall (wsV RX6 203 RX6 yX6_told wsX6_told) := goodIn_app (goodIn_of _ (by decide +kernel)) ggX6_leastCall_X6_told
set_option maxRecDepth 20000 in
theorem ggX6_neededMoves_X6_wonByEven : GoodIn wsX6_neededMoves wsX6_wonByEven := goodIn_r _ [6, 7, 8, 9, 5, 10, 1, 11, 12, 13, 14, 15, 16, 17, 18, 19, 20, 21, 22, 23, 24, 25, 26, 27, 28, 29, 30, 40, 41, 42, 43, 44, 45, 46, 47, 48, 49, 50, 51, 52, 53, 54, 55, 56, 57, 58, 59, 60, 61, 62, 63, 64, 65, 66, 67, 68, 69, 70] (by decide +kernel) (by decide +kernel)
set_option maxRecDepth 20000 in
theorem gX6_neededMoves_X6_wonByEven : GoodIn wsX6_neededMoves (wsV RX6 96 RX6 yX6_wonByEven wsX6_wonByEven) := goodIn_app (goodIn_of _ (by decide +kernel)) ggX6_neededMoves_X6_wonByEven
set_option maxRecDepth 20000 in
theorem ggX6_neededMoves_X6_wonBut : GoodIn wsX6_neededMoves wsX6_wonBut := goodIn_r _ [34, 11, 7, 8, 9, 5, 10, 1, 12, 13, 14, 15, 16, 17, 18, 19, 20, 21, 22, 23, 24, 25, 26, 27, 28, 29, 30, 40, 41, 42, 43, 44, 45, 46, 47, 48, 49, 50, 51, 52, 53, 54, 55, 56, 57, 58, 59, 60, 61, 62, 63, 64, 65, 66, 67, 68, 69, 70] (by decide +kernel) (by decide +kernel)
set_option maxRecDepth 20000 in
theorem gX6_neededMoves_X6_wonBut : GoodIn wsX6_neededMoves (wsV RX6 267 RX6 yX6_wonBut wsX6_wonBut) := goodIn_app (goodIn_of _ (by decide +kernel)) ggX6_neededMoves_X6_wonBut
set_option maxRecDepth 20000 in
theorem ggX6_neededMoves_X6_told : GoodIn wsX6_neededMoves wsX6_told := goodIn_r _ [38, 39, 40, 41, 42, 43, 44, 45, 46, 47, 48, 49, 50, 51, 52, 53, 54, 55, 56, 57, 58, 59, 60, 61, 62, 63, 64, 65, 66, 67, 68, 69, 70] (by decide +kernel) (by decide +kernel)
set_option maxRecDepth 20000 in
theorem gX6_neededMoves_X6_told : GoodIn wsX6_neededMoves (wsV RX6 203 RX6 yX6_told wsX6_told) := goodIn_app (goodIn_of _ (by decide +kernel)) ggX6_neededMoves_X6_told
set_option maxRecDepth 20000 in
theorem ggX6_keyPlace_X6_wonByEven : GoodIn wsX6_keyPlace wsX6_wonByEven := goodIn_r _ [6, 7, 8, 9, 5, 10, 1, 11, 12, 13, 14, 15, 16, 17, 18, 19, 20, 21, 22, 23, 24, 25, 26, 27, 28, 29, 30, 43, 44, 45, 46, 47, 48, 49, 50, 51, 52, 53, 54, 55, 56, 57, 58, 59, 60, 61, 62, 63, 64, 65, 66, 67, 68, 69, 70, 71, 72, 73] (by decide +kernel) (by decide +kernel)
set_option maxRecDepth 20000 in
theorem gX6_keyPlace_X6_wonByEven : GoodIn wsX6_keyPlace (wsV RX6 96 RX6 yX6_wonByEven wsX6_wonByEven) := goodIn_app (goodIn_of _ (by decide +kernel)) ggX6_keyPlace_X6_wonByEven
set_option maxRecDepth 20000 in
theorem ggX6_keyPlace_X6_wonOther : GoodIn wsX6_keyPlace wsX6_wonOther := goodIn_r _ [34, 1, 2, 3, 4, 5, 6, 7, 8, 9, 10, 11, 12, 13, 14, 15, 16, 17, 18, 19, 20, 21, 22, 23, 24, 25, 26, 27, 28, 29, 30, 43, 44, 45, 46, 47, 48, 49, 50, 51, 52, 53, 54, 55, 56, 57, 58, 59, 60, 61, 62, 63, 64, 65, 66, 67, 68, 69, 70, 71, 72, 73] (by decide +kernel) (by decide +kernel)
set_option maxRecDepth 20000 in
theorem gX6_keyPlace_X6_wonOther : GoodIn wsX6_keyPlace (wsV RX6 264 RX6 yX6_wonOther wsX6_wonOther) := goodIn_app (goodIn_of _ (by decide +kernel)) ggX6_keyPlace_X6_wonOther
set_option maxRecDepth 20000 in
theorem ggX6_keyPlace_X6_many : GoodIn wsX6_keyPlace wsX6_many := goodIn_r _ [37] (by decide +kernel) (by decide +kernel)
set_option maxRecDepth 20000 in
theorem gX6_keyPlace_X6_many : GoodIn wsX6_keyPlace (va_wsS RX6 236 yX6_many wsX6_many) := goodIn_app (goodIn_of _ (by decide +kernel)) ggX6_keyPlace_X6_many
set_option maxRecDepth 20000 in
theorem ggX6_keyPlace_X6_told : GoodIn wsX6_keyPlace wsX6_told := goodIn_r _ [41, 42, 43, 44, 45, 46, 47, 48, 49, 50, 51, 52, 53, 54, 55, 56, 57, 58, 59, 60, 61, 62, 63, 64, 65, 66, 67, 68, 69, 70, 71, 72, 73] (by decide +kernel) (by decide +kernel)
set_option maxRecDepth 20000 in
theorem gX6_keyPlace_X6_told : GoodIn wsX6_keyPlace (wsV RX6 203 RX6 yX6_told wsX6_told) := goodIn_app (goodIn_of _ (by decide +kernel)) ggX6_keyPlace_X6_told
set_option maxRecDepth 20000 in
theorem ggX6_addPlace_X6_in : GoodIn wsX6_addPlace wsX6_in := goodIn_r _ [5] (by decide +kernel) (by decide +kernel)
set_option maxRecDepth 20000 in
theorem gX6_addPlace_X6_in : GoodIn wsX6_addPlace (va_wsS RX6 68 yX6_in wsX6_in) := goodIn_app (goodIn_of _ (by decide +kernel)) ggX6_addPlace_X6_in
set_option maxRecDepth 20000 in
theorem ggX6_addPlace_X6_refuse : GoodIn wsX6_addPlace wsX6_refuse := goodIn_r _ [9, 10, 25, 26, 27, 28, 29, 30, 31, 32, 33, 34, 35, 36, 37, 38, 39, 40, 41, 42, 43, 44, 45, 46, 47, 48, 49, 50, 51, 52, 53, 54, 55] (by decide +kernel) (by decide +kernel)
set_option maxRecDepth 20000 in
theorem gX6_addPlace_X6_refuse : GoodIn wsX6_addPlace (wsV RX6 197 RX6 yX6_refuse wsX6_refuse) := goodIn_app (goodIn_of _ (by decide +kernel)) ggX6_addPlace_X6_refuse
set_option maxRecDepth 20000 in
theorem ggX6_addPlace_X6_remembers : GoodIn wsX6_addPlace wsX6_remembers := goodIn_r _ [14, 15, 16, 1, 25, 26, 27, 28, 29, 30, 31, 32, 33, 34, 35, 36, 37, 38, 39, 40, 41, 42, 43, 44, 45, 46, 47, 48, 49, 50, 51, 52, 53, 54, 55] (by decide +kernel) (by decide +kernel)
set_option maxRecDepth 20000 in
theorem gX6_addPlace_X6_remembers : GoodIn wsX6_addPlace (wsV RX6 270 RX6 yX6_remembers wsX6_remembers) := goodIn_app (goodIn_of _ (by decide +kernel)) ggX6_addPlace_X6_remembers
set_option maxRecDepth 20000 in
theorem ggX6_addPlace_X6_joins : GoodIn wsX6_addPlace wsX6_joins := goodIn_r _ [20, 1, 25, 26, 27, 28, 29, 30, 31, 32, 33, 34, 35, 36, 37, 38, 39, 40, 41, 42, 43, 44, 45, 46, 47, 48, 49, 50, 51, 52, 53, 54, 55] (by decide +kernel) (by decide +kernel)
set_option maxRecDepth 20000 in
theorem gX6_addPlace_X6_joins : GoodIn wsX6_addPlace (wsV RX6 54 RX6 yX6_joins wsX6_joins) := goodIn_app (goodIn_of _ (by decide +kernel)) ggX6_addPlace_X6_joins
set_option maxRecDepth 20000 in
theorem ggX6_addPlace_X6_told : GoodIn wsX6_addPlace wsX6_told := goodIn_r _ [24, 10, 25, 26, 27, 28, 29, 30, 31, 32, 33, 34, 35, 36, 37, 38, 39, 40, 41, 42, 43, 44, 45, 46, 47, 48, 49, 50, 51, 52, 53, 54, 55] (by decide +kernel) (by decide +kernel)
set_option maxRecDepth 20000 in
theorem gX6_addPlace_X6_told : GoodIn wsX6_addPlace (wsV RX6 203 RX6 yX6_told wsX6_told) := goodIn_app (goodIn_of _ (by decide +kernel)) ggX6_addPlace_X6_told
set_option maxRecDepth 20000 in
theorem ggX6_removePlace_X6_isPlace : GoodIn wsX6_removePlace wsX6_isPlace := goodIn_r _ [6, 1, 7, 8, 5, 9, 37, 38, 39, 40, 41, 42, 43, 44, 45, 46, 47, 48, 49, 50, 51, 52, 53, 54, 55, 56, 57, 58, 59, 60, 61, 62, 63, 64, 65, 66, 67] (by decide +kernel) (by decide +kernel)
set_option maxRecDepth 20000 in
theorem gX6_removePlace_X6_isPlace : GoodIn wsX6_removePlace (wsV RX6 173 RX6 yX6_isPlace wsX6_isPlace) := goodIn_app (goodIn_of _ (by decide +kernel)) ggX6_removePlace_X6_isPlace
set_option maxRecDepth 20000 in
theorem ggX6_removePlace_X6_refuse : GoodIn wsX6_removePlace wsX6_refuse := goodIn_r _ [13, 14, 37, 38, 39, 40, 41, 42, 43, 44, 45, 46, 47, 48, 49, 50, 51, 52, 53, 54, 55, 56, 57, 58, 59, 60, 61, 62, 63, 64, 65, 66, 67] (by decide +kernel) (by decide +kernel)
set_option maxRecDepth 20000 in
theorem gX6_removePlace_X6_refuse : GoodIn wsX6_removePlace (wsV RX6 197 RX6 yX6_refuse wsX6_refuse) := goodIn_app (goodIn_of _ (by decide +kernel)) ggX6_removePlace_X6_refuse
set_option maxRecDepth 20000 in
theorem ggX6_removePlace_X6_remembers : GoodIn wsX6_removePlace wsX6_remembers := goodIn_r _ [18, 19, 20, 1, 37, 38, 39, 40, 41, 42, 43, 44, 45, 46, 47, 48, 49, 50, 51, 52, 53, 54, 55, 56, 57, 58, 59, 60, 61, 62, 63, 64, 65, 66, 67] (by decide +kernel) (by decide +kernel)
set_option maxRecDepth 20000 in
theorem gX6_removePlace_X6_remembers : GoodIn wsX6_removePlace (wsV RX6 270 RX6 yX6_remembers wsX6_remembers) := goodIn_app (goodIn_of _ (by decide +kernel)) ggX6_removePlace_X6_remembers
set_option maxRecDepth 20000 in
theorem ggX6_removePlace_X6_drops : GoodIn wsX6_removePlace wsX6_drops := goodIn_r _ [24, 1, 37, 38, 39, 40, 41, 42, 43, 44, 45, 46, 47, 48, 49, 50, 51, 52, 53, 54, 55, 56, 57, 58, 59, 60, 61, 62, 63, 64, 65, 66, 67] (by decide +kernel) (by decide +kernel)
set_option maxRecDepth 20000 in
theorem gX6_removePlace_X6_drops : GoodIn wsX6_removePlace (wsV RX6 273 RX6 yX6_drops wsX6_drops) := goodIn_app (goodIn_of _ (by decide +kernel)) ggX6_removePlace_X6_drops
set_option maxRecDepth 20000 in
theorem ggX6_removePlace_X6_lays : GoodIn wsX6_removePlace wsX6_lays := goodIn_r _ [28, 1, 29, 30, 31, 5, 32, 37, 38, 39, 40, 41, 42, 43, 44, 45, 46, 47, 48, 49, 50, 51, 52, 53, 54, 55, 56, 57, 58, 59, 60, 61, 62, 63, 64, 65, 66, 67] (by decide +kernel) (by decide +kernel)
set_option maxRecDepth 20000 in
theorem gX6_removePlace_X6_lays : GoodIn wsX6_removePlace (wsV RX6 61 RX6 yX6_lays wsX6_lays) := goodIn_app (goodIn_of _ (by decide +kernel)) ggX6_removePlace_X6_lays
set_option maxRecDepth 20000 in
theorem ggX6_removePlace_X6_told : GoodIn wsX6_removePlace wsX6_told := goodIn_r _ [36, 14, 37, 38, 39, 40, 41, 42, 43, 44, 45, 46, 47, 48, 49, 50, 51, 52, 53, 54, 55, 56, 57, 58, 59, 60, 61, 62, 63, 64, 65, 66, 67] (by decide +kernel) (by decide +kernel)
set_option maxRecDepth 20000 in
theorem gX6_removePlace_X6_told : GoodIn wsX6_removePlace (wsV RX6 203 RX6 yX6_told wsX6_told) := goodIn_app (goodIn_of _ (by decide +kernel)) ggX6_removePlace_X6_told
set_option maxRecDepth 20000 in
theorem ggX6_sets_X6_remembers : GoodIn wsX6_sets wsX6_remembers := goodIn_r _ [6, 7, 8, 1, 14, 15, 16, 17, 18, 19, 20, 21, 22, 23, 24, 25, 26, 27, 28, 29, 30, 31, 32, 33, 34, 35, 36, 37, 38, 39, 40, 41, 42, 43, 44] (by decide +kernel) (by decide +kernel)
set_option maxRecDepth 20000 in
theorem gX6_sets_X6_remembers : GoodIn wsX6_sets (wsV RX6 270 RX6 yX6_remembers wsX6_remembers) := goodIn_app (goodIn_of _ (by decide +kernel)) ggX6_sets_X6_remembers
set_option maxRecDepth 20000 in
theorem ggX6_sets_X6_told : GoodIn wsX6_sets wsX6_told := goodIn_r _ [12, 13, 14, 15, 16, 17, 18, 19, 20, 21, 22, 23, 24, 25, 26, 27, 28, 29, 30, 31, 32, 33, 34, 35, 36, 37, 38, 39, 40, 41, 42, 43, 44] (by decide +kernel) (by decide +kernel)
set_option maxRecDepth 20000 in
theorem gX6_sets_X6_told : GoodIn wsX6_sets (wsV RX6 203 RX6 yX6_told wsX6_told) := goodIn_app (goodIn_of _ (by decide +kernel)) ggX6_sets_X6_told
set_option maxRecDepth 20000 in
theorem ggX6_setOwner_X6_isPlace : GoodIn wsX6_setOwner wsX6_isPlace := goodIn_r _ [5, 6, 7, 8, 4, 9, 29, 30, 31, 32, 33, 34, 35, 36, 37, 38, 39, 40, 41, 42, 43, 44, 45, 46, 47, 48, 49, 50, 51, 52, 53, 54, 55, 56, 57, 58, 59] (by decide +kernel) (by decide +kernel)
set_option maxRecDepth 20000 in
theorem gX6_setOwner_X6_isPlace : GoodIn wsX6_setOwner (wsV RX6 173 RX6 yX6_isPlace wsX6_isPlace) := goodIn_app (goodIn_of _ (by decide +kernel)) ggX6_setOwner_X6_isPlace
set_option maxRecDepth 20000 in
theorem ggX6_setOwner_X6_refuse : GoodIn wsX6_setOwner wsX6_refuse := goodIn_r _ [13, 14, 29, 30, 31, 32, 33, 34, 35, 36, 37, 38, 39, 40, 41, 42, 43, 44, 45, 46, 47, 48, 49, 50, 51, 52, 53, 54, 55, 56, 57, 58, 59] (by decide +kernel) (by decide +kernel)
set_option maxRecDepth 20000 in
theorem gX6_setOwner_X6_refuse : GoodIn wsX6_setOwner (wsV RX6 197 RX6 yX6_refuse wsX6_refuse) := goodIn_app (goodIn_of _ (by decide +kernel)) ggX6_setOwner_X6_refuse
set_option maxRecDepth 20000 in
theorem ggX6_setOwner_X6_in : GoodIn wsX6_setOwner wsX6_in := goodIn_r _ [9] (by decide +kernel) (by decide +kernel)
set_option maxRecDepth 20000 in
theorem gX6_setOwner_X6_in : GoodIn wsX6_setOwner (va_wsS RX6 68 yX6_in wsX6_in) := goodIn_app (goodIn_of _ (by decide +kernel)) ggX6_setOwner_X6_in
set_option maxRecDepth 20000 in
theorem ggX6_setOwner_X6_sets : GoodIn wsX6_setOwner wsX6_sets := goodIn_r _ [18, 6, 19, 20, 21, 4, 22, 23, 24, 25, 26, 27, 28, 14, 29, 30, 31, 32, 33, 34, 35, 36, 37, 38, 39, 40, 41, 42, 43, 44, 45, 46, 47, 48, 49, 50, 51, 52, 53, 54, 55, 56, 57, 58, 59] (by decide +kernel) (by decide +kernel)
set_option maxRecDepth 20000 in
theorem gX6_setOwner_X6_sets : GoodIn wsX6_setOwner (wsV RX6 276 RX6 yX6_sets wsX6_sets) := goodIn_app (goodIn_of _ (by decide +kernel)) ggX6_setOwner_X6_sets
set_option maxRecDepth 20000 in
theorem ggX6_setCall_X6_isPlace : GoodIn wsX6_setCall wsX6_isPlace := goodIn_r _ [5, 6, 7, 8, 4, 9, 29, 30, 31, 32, 33, 34, 35, 36, 37, 38, 39, 40, 41, 42, 43, 44, 45, 46, 47, 48, 49, 50, 51, 52, 53, 54, 55, 56, 57, 58, 59] (by decide +kernel) (by decide +kernel)
set_option maxRecDepth 20000 in
theorem gX6_setCall_X6_isPlace : GoodIn wsX6_setCall (wsV RX6 173 RX6 yX6_isPlace wsX6_isPlace) := goodIn_app (goodIn_of _ (by decide +kernel)) ggX6_setCall_X6_isPlace
set_option maxRecDepth 20000 in
theorem ggX6_setCall_X6_refuse : GoodIn wsX6_setCall wsX6_refuse := goodIn_r _ [13, 14, 29, 30, 31, 32, 33, 34, 35, 36, 37, 38, 39, 40, 41, 42, 43, 44, 45, 46, 47, 48, 49, 50, 51, 52, 53, 54, 55, 56, 57, 58, 59] (by decide +kernel) (by decide +kernel)
set_option maxRecDepth 20000 in
theorem gX6_setCall_X6_refuse : GoodIn wsX6_setCall (wsV RX6 197 RX6 yX6_refuse wsX6_refuse) := goodIn_app (goodIn_of _ (by decide +kernel)) ggX6_setCall_X6_refuse
set_option maxRecDepth 20000 in
theorem ggX6_setCall_X6_in : GoodIn wsX6_setCall wsX6_in := goodIn_r _ [9] (by decide +kernel) (by decide +kernel)
set_option maxRecDepth 20000 in
theorem gX6_setCall_X6_in : GoodIn wsX6_setCall (va_wsS RX6 68 yX6_in wsX6_in) := goodIn_app (goodIn_of _ (by decide +kernel)) ggX6_setCall_X6_in
set_option maxRecDepth 20000 in
theorem ggX6_setCall_X6_sets : GoodIn wsX6_setCall wsX6_sets := goodIn_r _ [18, 6, 19, 20, 21, 4, 22, 23, 24, 25, 26, 27, 28, 14, 29, 30, 31, 32, 33, 34, 35, 36, 37, 38, 39, 40, 41, 42, 43, 44, 45, 46, 47, 48, 49, 50, 51, 52, 53, 54, 55, 56, 57, 58, 59] (by decide +kernel) (by decide +kernel)
set_option maxRecDepth 20000 in
theorem gX6_setCall_X6_sets : GoodIn wsX6_setCall (wsV RX6 276 RX6 yX6_sets wsX6_sets) := goodIn_app (goodIn_of _ (by decide +kernel)) ggX6_setCall_X6_sets
set_option maxRecDepth 20000 in
theorem ggX6_addMove_X6_isPlace : GoodIn wsX6_addMove wsX6_isPlace := goodIn_r _ [6, 1, 7, 8, 5, 9, 33, 34, 35, 36, 37, 38, 39, 40, 41, 42, 43, 44, 45, 46, 47, 48, 49, 50, 51, 52, 53, 54, 55, 56, 57, 58, 59, 60, 61, 62, 63] (by decide +kernel) (by decide +kernel)
set_option maxRecDepth 20000 in
theorem gX6_addMove_X6_isPlace : GoodIn wsX6_addMove (wsV RX6 173 RX6 yX6_isPlace wsX6_isPlace) := goodIn_app (goodIn_of _ (by decide +kernel)) ggX6_addMove_X6_isPlace
set_option maxRecDepth 20000 in
theorem ggX6_addMove_X6_refuse : GoodIn wsX6_addMove wsX6_refuse := goodIn_r _ [13, 14, 33, 34, 35, 36, 37, 38, 39, 40, 41, 42, 43, 44, 45, 46, 47, 48, 49, 50, 51, 52, 53, 54, 55, 56, 57, 58, 59, 60, 61, 62, 63] (by decide +kernel) (by decide +kernel)
set_option maxRecDepth 20000 in
theorem gX6_addMove_X6_refuse : GoodIn wsX6_addMove (wsV RX6 197 RX6 yX6_refuse wsX6_refuse) := goodIn_app (goodIn_of _ (by decide +kernel)) ggX6_addMove_X6_refuse
set_option maxRecDepth 20000 in
theorem ggX6_addMove_X6_between : GoodIn wsX6_addMove wsX6_between := goodIn_r _ [18, 1, 33, 34, 35, 36, 37, 38, 39, 40, 41, 42, 43, 44, 45, 46, 47, 48, 49, 50, 51, 52, 53, 54, 55, 56, 57, 58, 59, 60, 61, 62, 63] (by decide +kernel) (by decide +kernel)
set_option maxRecDepth 20000 in
theorem gX6_addMove_X6_between : GoodIn wsX6_addMove (wsV RX6 179 RX6 yX6_between wsX6_between) := goodIn_app (goodIn_of _ (by decide +kernel)) ggX6_addMove_X6_between
set_option maxRecDepth 20000 in
theorem ggX6_addMove_X6_remembers : GoodIn wsX6_addMove wsX6_remembers := goodIn_r _ [22, 23, 24, 1, 33, 34, 35, 36, 37, 38, 39, 40, 41, 42, 43, 44, 45, 46, 47, 48, 49, 50, 51, 52, 53, 54, 55, 56, 57, 58, 59, 60, 61, 62, 63] (by decide +kernel) (by decide +kernel)
set_option maxRecDepth 20000 in
theorem gX6_addMove_X6_remembers : GoodIn wsX6_addMove (wsV RX6 270 RX6 yX6_remembers wsX6_remembers) := goodIn_app (goodIn_of _ (by decide +kernel)) ggX6_addMove_X6_remembers
set_option maxRecDepth 20000 in
theorem ggX6_addMove_X6_leads : GoodIn wsX6_addMove wsX6_leads := goodIn_r _ [28, 1, 33, 34, 35, 36, 37, 38, 39, 40, 41, 42, 43, 44, 45, 46, 47, 48, 49, 50, 51, 52, 53, 54, 55, 56, 57, 58, 59, 60, 61, 62, 63] (by decide +kernel) (by decide +kernel)
set_option maxRecDepth 20000 in
theorem gX6_addMove_X6_leads : GoodIn wsX6_addMove (wsV RX6 58 RX6 yX6_leads wsX6_leads) := goodIn_app (goodIn_of _ (by decide +kernel)) ggX6_addMove_X6_leads
set_option maxRecDepth 20000 in
theorem ggX6_addMove_X6_told : GoodIn wsX6_addMove wsX6_told := goodIn_r _ [32, 14, 33, 34, 35, 36, 37, 38, 39, 40, 41, 42, 43, 44, 45, 46, 47, 48, 49, 50, 51, 52, 53, 54, 55, 56, 57, 58, 59, 60, 61, 62, 63] (by decide +kernel) (by decide +kernel)
set_option maxRecDepth 20000 in
theorem gX6_addMove_X6_told : GoodIn wsX6_addMove (wsV RX6 203 RX6 yX6_told wsX6_told) := goodIn_app (goodIn_of _ (by decide +kernel)) ggX6_addMove_X6_told
set_option maxRecDepth 20000 in
theorem ggX6_removeMove_X6_isMove : GoodIn wsX6_removeMove wsX6_isMove := goodIn_r _ [6, 1, 7, 8, 5, 9, 29, 30, 31, 32, 33, 34, 35, 36, 37, 38, 39, 40, 41, 42, 43, 44, 45, 46, 47, 48, 49, 50, 51, 52, 53, 54, 55, 56, 57, 58, 59] (by decide +kernel) (by decide +kernel)
set_option maxRecDepth 20000 in
theorem gX6_removeMove_X6_isMove : GoodIn wsX6_removeMove (wsV RX6 230 RX6 yX6_isMove wsX6_isMove) := goodIn_app (goodIn_of _ (by decide +kernel)) ggX6_removeMove_X6_isMove
set_option maxRecDepth 20000 in
theorem ggX6_removeMove_X6_refuse : GoodIn wsX6_removeMove wsX6_refuse := goodIn_r _ [13, 14, 29, 30, 31, 32, 33, 34, 35, 36, 37, 38, 39, 40, 41, 42, 43, 44, 45, 46, 47, 48, 49, 50, 51, 52, 53, 54, 55, 56, 57, 58, 59] (by decide +kernel) (by decide +kernel)
set_option maxRecDepth 20000 in
theorem gX6_removeMove_X6_refuse : GoodIn wsX6_removeMove (wsV RX6 197 RX6 yX6_refuse wsX6_refuse) := goodIn_app (goodIn_of _ (by decide +kernel)) ggX6_removeMove_X6_refuse
set_option maxRecDepth 20000 in
theorem ggX6_removeMove_X6_remembers : GoodIn wsX6_removeMove wsX6_remembers := goodIn_r _ [18, 19, 20, 1, 29, 30, 31, 32, 33, 34, 35, 36, 37, 38, 39, 40, 41, 42, 43, 44, 45, 46, 47, 48, 49, 50, 51, 52, 53, 54, 55, 56, 57, 58, 59] (by decide +kernel) (by decide +kernel)
set_option maxRecDepth 20000 in
theorem gX6_removeMove_X6_remembers : GoodIn wsX6_removeMove (wsV RX6 270 RX6 yX6_remembers wsX6_remembers) := goodIn_app (goodIn_of _ (by decide +kernel)) ggX6_removeMove_X6_remembers
set_option maxRecDepth 20000 in
theorem ggX6_removeMove_X6_drops : GoodIn wsX6_removeMove wsX6_drops := goodIn_r _ [24, 1, 29, 30, 31, 32, 33, 34, 35, 36, 37, 38, 39, 40, 41, 42, 43, 44, 45, 46, 47, 48, 49, 50, 51, 52, 53, 54, 55, 56, 57, 58, 59] (by decide +kernel) (by decide +kernel)
set_option maxRecDepth 20000 in
theorem gX6_removeMove_X6_drops : GoodIn wsX6_removeMove (wsV RX6 273 RX6 yX6_drops wsX6_drops) := goodIn_app (goodIn_of _ (by decide +kernel)) ggX6_removeMove_X6_drops
set_option maxRecDepth 20000 in
theorem ggX6_removeMove_X6_told : GoodIn wsX6_removeMove wsX6_told := goodIn_r _ [28, 14, 29, 30, 31, 32, 33, 34, 35, 36, 37, 38, 39, 40, 41, 42, 43, 44, 45, 46, 47, 48, 49, 50, 51, 52, 53, 54, 55, 56, 57, 58, 59] (by decide +kernel) (by decide +kernel)
set_option maxRecDepth 20000 in
theorem gX6_removeMove_X6_told : GoodIn wsX6_removeMove (wsV RX6 203 RX6 yX6_told wsX6_told) := goodIn_app (goodIn_of _ (by decide +kernel)) ggX6_removeMove_X6_told
set_option maxRecDepth 20000 in
theorem ggX6_preferMove_X6_isMove : GoodIn wsX6_preferMove wsX6_isMove := goodIn_r _ [6, 1, 7, 8, 5, 9, 25, 26, 27, 28, 29, 30, 31, 32, 33, 34, 35, 36, 37, 38, 39, 40, 41, 42, 43, 44, 45, 46, 47, 48, 49, 50, 51, 52, 53, 54, 55] (by decide +kernel) (by decide +kernel)
set_option maxRecDepth 20000 in
theorem gX6_preferMove_X6_isMove : GoodIn wsX6_preferMove (wsV RX6 230 RX6 yX6_isMove wsX6_isMove) := goodIn_app (goodIn_of _ (by decide +kernel)) ggX6_preferMove_X6_isMove
set_option maxRecDepth 20000 in
theorem ggX6_preferMove_X6_refuse : GoodIn wsX6_preferMove wsX6_refuse := goodIn_r _ [13, 14, 25, 26, 27, 28, 29, 30, 31, 32, 33, 34, 35, 36, 37, 38, 39, 40, 41, 42, 43, 44, 45, 46, 47, 48, 49, 50, 51, 52, 53, 54, 55] (by decide +kernel) (by decide +kernel)
set_option maxRecDepth 20000 in
theorem gX6_preferMove_X6_refuse : GoodIn wsX6_preferMove (wsV RX6 197 RX6 yX6_refuse wsX6_refuse) := goodIn_app (goodIn_of _ (by decide +kernel)) ggX6_preferMove_X6_refuse
set_option maxRecDepth 20000 in
theorem ggX6_preferMove_X6_remembers : GoodIn wsX6_preferMove wsX6_remembers := goodIn_r _ [18, 19, 20, 1, 25, 26, 27, 28, 29, 30, 31, 32, 33, 34, 35, 36, 37, 38, 39, 40, 41, 42, 43, 44, 45, 46, 47, 48, 49, 50, 51, 52, 53, 54, 55] (by decide +kernel) (by decide +kernel)
set_option maxRecDepth 20000 in
theorem gX6_preferMove_X6_remembers : GoodIn wsX6_preferMove (wsV RX6 270 RX6 yX6_remembers wsX6_remembers) := goodIn_app (goodIn_of _ (by decide +kernel)) ggX6_preferMove_X6_remembers
set_option maxRecDepth 20000 in
theorem ggX6_preferMove_X6_told : GoodIn wsX6_preferMove wsX6_told := goodIn_r _ [24, 14, 25, 26, 27, 28, 29, 30, 31, 32, 33, 34, 35, 36, 37, 38, 39, 40, 41, 42, 43, 44, 45, 46, 47, 48, 49, 50, 51, 52, 53, 54, 55] (by decide +kernel) (by decide +kernel)
set_option maxRecDepth 20000 in
theorem gX6_preferMove_X6_told : GoodIn wsX6_preferMove (wsV RX6 203 RX6 yX6_told wsX6_told) := goodIn_app (goodIn_of _ (by decide +kernel)) ggX6_preferMove_X6_told
set_option maxRecDepth 20000 in
theorem ggX6_exchange_X6_greatestCall : GoodIn wsX6_exchange wsX6_greatestCall := goodIn_r _ [6, 1, 30, 31, 32, 33, 34, 35, 36, 37, 38, 39, 40, 41, 42, 43, 44, 45, 46, 47, 48, 49, 50, 51, 52, 53, 54, 55, 56, 57, 58, 59, 60] (by decide +kernel) (by decide +kernel)
set_option maxRecDepth 20000 in
theorem gX6_exchange_X6_greatestCall : GoodIn wsX6_exchange (wsV RX6 221 RX6 yX6_greatestCall wsX6_greatestCall) := goodIn_app (goodIn_of _ (by decide +kernel)) ggX6_exchange_X6_greatestCall
set_option maxRecDepth 20000 in
theorem ggX6_exchange_X6_refuse : GoodIn wsX6_exchange wsX6_refuse := goodIn_r _ [10, 11, 30, 31, 32, 33, 34, 35, 36, 37, 38, 39, 40, 41, 42, 43, 44, 45, 46, 47, 48, 49, 50, 51, 52, 53, 54, 55, 56, 57, 58, 59, 60] (by decide +kernel) (by decide +kernel)
set_option maxRecDepth 20000 in
theorem gX6_exchange_X6_refuse : GoodIn wsX6_exchange (wsV RX6 197 RX6 yX6_refuse wsX6_refuse) := goodIn_app (goodIn_of _ (by decide +kernel)) ggX6_exchange_X6_refuse
set_option maxRecDepth 20000 in
theorem ggX6_exchange_X6_remembers : GoodIn wsX6_exchange wsX6_remembers := goodIn_r _ [15, 16, 17, 1, 30, 31, 32, 33, 34, 35, 36, 37, 38, 39, 40, 41, 42, 43, 44, 45, 46, 47, 48, 49, 50, 51, 52, 53, 54, 55, 56, 57, 58, 59, 60] (by decide +kernel) (by decide +kernel)
set_option maxRecDepth 20000 in
theorem gX6_exchange_X6_remembers : GoodIn wsX6_exchange (wsV RX6 270 RX6 yX6_remembers wsX6_remembers) := goodIn_app (goodIn_of _ (by decide +kernel)) ggX6_exchange_X6_remembers
set_option maxRecDepth 20000 in
theorem ggX6_exchange_X6_lays : GoodIn wsX6_exchange wsX6_lays := goodIn_r _ [21, 1, 22, 23, 24, 5, 25, 30, 31, 32, 33, 34, 35, 36, 37, 38, 39, 40, 41, 42, 43, 44, 45, 46, 47, 48, 49, 50, 51, 52, 53, 54, 55, 56, 57, 58, 59, 60] (by decide +kernel) (by decide +kernel)
set_option maxRecDepth 20000 in
theorem gX6_exchange_X6_lays : GoodIn wsX6_exchange (wsV RX6 61 RX6 yX6_lays wsX6_lays) := goodIn_app (goodIn_of _ (by decide +kernel)) ggX6_exchange_X6_lays
set_option maxRecDepth 20000 in
theorem ggX6_exchange_X6_told : GoodIn wsX6_exchange wsX6_told := goodIn_r _ [29, 11, 30, 31, 32, 33, 34, 35, 36, 37, 38, 39, 40, 41, 42, 43, 44, 45, 46, 47, 48, 49, 50, 51, 52, 53, 54, 55, 56, 57, 58, 59, 60] (by decide +kernel) (by decide +kernel)
set_option maxRecDepth 20000 in
theorem gX6_exchange_X6_told : GoodIn wsX6_exchange (wsV RX6 203 RX6 yX6_told wsX6_told) := goodIn_app (goodIn_of _ (by decide +kernel)) ggX6_exchange_X6_told
set_option maxRecDepth 20000 in
theorem ggX6_lay_X6_isPlace : GoodIn wsX6_lay wsX6_isPlace := goodIn_r _ [5, 6, 7, 8, 4, 9, 68, 69, 70, 71, 72, 73, 74, 75, 76, 77, 78, 79, 80, 81, 82, 83, 84, 85, 86, 87, 88, 89, 90, 91, 92, 93, 94, 95, 96, 97, 98] (by decide +kernel) (by decide +kernel)
set_option maxRecDepth 20000 in
theorem gX6_lay_X6_isPlace : GoodIn wsX6_lay (wsV RX6 173 RX6 yX6_isPlace wsX6_isPlace) := goodIn_app (goodIn_of _ (by decide +kernel)) ggX6_lay_X6_isPlace
set_option maxRecDepth 20000 in
theorem ggX6_lay_X6_refuse : GoodIn wsX6_lay wsX6_refuse := goodIn_r _ [13, 14, 68, 69, 70, 71, 72, 73, 74, 75, 76, 77, 78, 79, 80, 81, 82, 83, 84, 85, 86, 87, 88, 89, 90, 91, 92, 93, 94, 95, 96, 97, 98] (by decide +kernel) (by decide +kernel)
set_option maxRecDepth 20000 in
theorem gX6_lay_X6_refuse : GoodIn wsX6_lay (wsV RX6 197 RX6 yX6_refuse wsX6_refuse) := goodIn_app (goodIn_of _ (by decide +kernel)) ggX6_lay_X6_refuse
set_option maxRecDepth 20000 in
theorem ggX6_lay_X6_remembers : GoodIn wsX6_lay wsX6_remembers := goodIn_r _ [18, 19, 20, 6, 68, 69, 70, 71, 72, 73, 74, 75, 76, 77, 78, 79, 80, 81, 82, 83, 84, 85, 86, 87, 88, 89, 90, 91, 92, 93, 94, 95, 96, 97, 98] (by decide +kernel) (by decide +kernel)
set_option maxRecDepth 20000 in
theorem gX6_lay_X6_remembers : GoodIn wsX6_lay (wsV RX6 270 RX6 yX6_remembers wsX6_remembers) := goodIn_app (goodIn_of _ (by decide +kernel)) ggX6_lay_X6_remembers
set_option maxRecDepth 20000 in
theorem ggX6_lay_X6_lays : GoodIn wsX6_lay wsX6_lays := goodIn_r _ [24, 6, 25, 26, 27, 4, 28, 68, 69, 70, 71, 72, 73, 74, 75, 76, 77, 78, 79, 80, 81, 82, 83, 84, 85, 86, 87, 88, 89, 90, 91, 92, 93, 94, 95, 96, 97, 98] (by decide +kernel) (by decide +kernel)
set_option maxRecDepth 20000 in
theorem gX6_lay_X6_lays : GoodIn wsX6_lay (wsV RX6 61 RX6 yX6_lays wsX6_lays) := goodIn_app (goodIn_of _ (by decide +kernel)) ggX6_lay_X6_lays
set_option maxRecDepth 20000 in
theorem ggX6_lay_X6_winner : GoodIn wsX6_lay wsX6_winner := goodIn_r _ [32, 33, 34, 35, 4, 36, 37, 38, 39, 40, 6, 41, 42, 43, 44, 45, 46, 47, 48, 49, 50, 51, 52, 53, 54, 55, 56, 57, 58, 59, 60, 61, 62, 63, 68, 69, 70, 71, 72, 73, 74, 75, 76, 77, 78, 79, 80, 81, 82, 83, 84, 85, 86, 87, 88, 89, 90, 91, 92, 93, 94, 95, 96, 97, 98] (by decide +kernel) (by decide +kernel)
set_option maxRecDepth 20000 in
theorem gX6_lay_X6_winner : GoodIn wsX6_lay (wsV RX6 227 RX6 yX6_winner wsX6_winner) := goodIn_app (goodIn_of _ (by decide +kernel)) ggX6_lay_X6_winner
set_option maxRecDepth 20000 in
theorem ggX6_lay_X6_told : GoodIn wsX6_lay wsX6_told := goodIn_r _ [67, 14, 68, 69, 70, 71, 72, 73, 74, 75, 76, 77, 78, 79, 80, 81, 82, 83, 84, 85, 86, 87, 88, 89, 90, 91, 92, 93, 94, 95, 96, 97, 98] (by decide +kernel) (by decide +kernel)
set_option maxRecDepth 20000 in
theorem gX6_lay_X6_told : GoodIn wsX6_lay (wsV RX6 203 RX6 yX6_told wsX6_told) := goodIn_app (goodIn_of _ (by decide +kernel)) ggX6_lay_X6_told
set_option maxRecDepth 20000 in
theorem ggX6_goes_X6_hears : GoodIn wsX6_goes wsX6_hears := goodIn_r _ [6, 1, 7, 8, 9, 10, 11, 12, 13, 14, 15, 16, 17, 18, 19, 20, 21, 22, 23, 24, 25, 26, 27, 28, 29, 30, 31, 32, 33, 34, 35, 36, 37] (by decide +kernel) (by decide +kernel)
set_option maxRecDepth 20000 in
theorem gX6_goes_X6_hears : GoodIn wsX6_goes (wsV RX6 72 RX6 yX6_hears wsX6_hears) := goodIn_app (goodIn_of _ (by decide +kernel)) ggX6_goes_X6_hears
set_option maxRecDepth 20000 in
theorem ggX6_go_X6_isMove : GoodIn wsX6_go wsX6_isMove := goodIn_r _ [6, 1, 7, 8, 5, 9, 33, 34, 35, 36, 37, 38, 39, 40, 41, 42, 43, 44, 45, 46, 47, 48, 49, 50, 51, 52, 53, 54, 55, 56, 57, 58, 59, 60, 61, 62, 63] (by decide +kernel) (by decide +kernel)
set_option maxRecDepth 20000 in
theorem gX6_go_X6_isMove : GoodIn wsX6_go (wsV RX6 230 RX6 yX6_isMove wsX6_isMove) := goodIn_app (goodIn_of _ (by decide +kernel)) ggX6_go_X6_isMove
set_option maxRecDepth 20000 in
theorem ggX6_go_X6_refuse : GoodIn wsX6_go wsX6_refuse := goodIn_r _ [13, 14, 33, 34, 35, 36, 37, 38, 39, 40, 41, 42, 43, 44, 45, 46, 47, 48, 49, 50, 51, 52, 53, 54, 55, 56, 57, 58, 59, 60, 61, 62, 63] (by decide +kernel) (by decide +kernel)
set_option maxRecDepth 20000 in
theorem gX6_go_X6_refuse : GoodIn wsX6_go (wsV RX6 197 RX6 yX6_refuse wsX6_refuse) := goodIn_app (goodIn_of _ (by decide +kernel)) ggX6_go_X6_refuse
set_option maxRecDepth 20000 in
theorem ggX6_go_X6_remembers : GoodIn wsX6_go wsX6_remembers := goodIn_r _ [18, 19, 20, 1, 33, 34, 35, 36, 37, 38, 39, 40, 41, 42, 43, 44, 45, 46, 47, 48, 49, 50, 51, 52, 53, 54, 55, 56, 57, 58, 59, 60, 61, 62, 63] (by decide +kernel) (by decide +kernel)
set_option maxRecDepth 20000 in
theorem gX6_go_X6_remembers : GoodIn wsX6_go (wsV RX6 270 RX6 yX6_remembers wsX6_remembers) := goodIn_app (goodIn_of _ (by decide +kernel)) ggX6_go_X6_remembers
set_option maxRecDepth 20000 in
theorem ggX6_go_X6_goes : GoodIn wsX6_go wsX6_goes := goodIn_r _ [24, 1, 25, 26, 27, 5, 28, 33, 34, 35, 36, 37, 38, 39, 40, 41, 42, 43, 44, 45, 46, 47, 48, 49, 50, 51, 52, 53, 54, 55, 56, 57, 58, 59, 60, 61, 62, 63] (by decide +kernel) (by decide +kernel)
set_option maxRecDepth 20000 in
theorem gX6_go_X6_goes : GoodIn wsX6_go (wsV RX6 279 RX6 yX6_goes wsX6_goes) := goodIn_app (goodIn_of _ (by decide +kernel)) ggX6_go_X6_goes
set_option maxRecDepth 20000 in
theorem ggX6_go_X6_told : GoodIn wsX6_go wsX6_told := goodIn_r _ [32, 14, 33, 34, 35, 36, 37, 38, 39, 40, 41, 42, 43, 44, 45, 46, 47, 48, 49, 50, 51, 52, 53, 54, 55, 56, 57, 58, 59, 60, 61, 62, 63] (by decide +kernel) (by decide +kernel)
set_option maxRecDepth 20000 in
theorem gX6_go_X6_told : GoodIn wsX6_go (wsV RX6 203 RX6 yX6_told wsX6_told) := goodIn_app (goodIn_of _ (by decide +kernel)) ggX6_go_X6_told
set_option maxRecDepth 20000 in
theorem ggX6_run_X6_in : GoodIn wsX6_run wsX6_in := goodIn_r _ [6] (by decide +kernel) (by decide +kernel)
set_option maxRecDepth 20000 in
theorem gX6_run_X6_in : GoodIn wsX6_run (va_wsS RX6 68 yX6_in wsX6_in) := goodIn_app (goodIn_of _ (by decide +kernel)) ggX6_run_X6_in
set_option maxRecDepth 20000 in
theorem ggX6_run_X6_refuse : GoodIn wsX6_run wsX6_refuse := goodIn_r _ [10, 11, 81, 82, 83, 84, 85, 86, 87, 88, 89, 90, 91, 92, 93, 94, 95, 96, 97, 98, 99, 100, 101, 102, 103, 104, 105, 106, 107, 108, 109, 110, 111] (by decide +kernel) (by decide +kernel)
set_option maxRecDepth 20000 in
theorem gX6_run_X6_refuse : GoodIn wsX6_run (wsV RX6 197 RX6 yX6_refuse wsX6_refuse) := goodIn_app (goodIn_of _ (by decide +kernel)) ggX6_run_X6_refuse
set_option maxRecDepth 20000 in
theorem ggX6_run_X6_remembers : GoodIn wsX6_run wsX6_remembers := goodIn_r _ [15, 16, 17, 2, 81, 82, 83, 84, 85, 86, 87, 88, 89, 90, 91, 92, 93, 94, 95, 96, 97, 98, 99, 100, 101, 102, 103, 104, 105, 106, 107, 108, 109, 110, 111] (by decide +kernel) (by decide +kernel)
set_option maxRecDepth 20000 in
theorem gX6_run_X6_remembers : GoodIn wsX6_run (wsV RX6 270 RX6 yX6_remembers wsX6_remembers) := goodIn_app (goodIn_of _ (by decide +kernel)) ggX6_run_X6_remembers
set_option maxRecDepth 20000 in
theorem ggX6_run_X6_plans : GoodIn wsX6_run wsX6_plans := goodIn_r _ [21, 2, 1, 22, 23, 24, 5, 25, 26, 27, 28, 29, 30, 31, 32, 33, 34, 35, 36, 37, 38, 39, 40, 41, 42, 43, 44, 45, 46, 47, 48, 49, 50, 51, 52, 53, 54, 55, 56, 57, 58, 59, 60, 61, 62, 63, 64, 65, 66, 67, 68, 81, 82, 83, 84, 85, 86, 87, 88, 89, 90, 91, 92, 93, 94, 95, 96, 97, 98, 99, 100, 101, 102, 103, 104, 105, 106, 107, 108, 109, 110, 111] (by decide +kernel) (by decide +kernel)
set_option maxRecDepth 20000 in
theorem gX6_run_X6_plans : GoodIn wsX6_run (wsV RX6 249 RX6 yX6_plans wsX6_plans) := goodIn_app (goodIn_of _ (by decide +kernel)) ggX6_run_X6_plans
set_option maxRecDepth 20000 in
theorem ggX6_run_X6_goes : GoodIn wsX6_run wsX6_goes := goodIn_r _ [72, 2, 73, 74, 75, 5, 76, 81, 82, 83, 84, 85, 86, 87, 88, 89, 90, 91, 92, 93, 94, 95, 96, 97, 98, 99, 100, 101, 102, 103, 104, 105, 106, 107, 108, 109, 110, 111] (by decide +kernel) (by decide +kernel)
set_option maxRecDepth 20000 in
theorem gX6_run_X6_goes : GoodIn wsX6_run (wsV RX6 279 RX6 yX6_goes wsX6_goes) := goodIn_app (goodIn_of _ (by decide +kernel)) ggX6_run_X6_goes
set_option maxRecDepth 20000 in
theorem ggX6_run_X6_told : GoodIn wsX6_run wsX6_told := goodIn_r _ [80, 11, 81, 82, 83, 84, 85, 86, 87, 88, 89, 90, 91, 92, 93, 94, 95, 96, 97, 98, 99, 100, 101, 102, 103, 104, 105, 106, 107, 108, 109, 110, 111] (by decide +kernel) (by decide +kernel)
set_option maxRecDepth 20000 in
theorem gX6_run_X6_told : GoodIn wsX6_run (wsV RX6 203 RX6 yX6_told wsX6_told) := goodIn_app (goodIn_of _ (by decide +kernel)) ggX6_run_X6_told
set_option maxRecDepth 20000 in
theorem ggX6_restore_X6_in : GoodIn wsX6_restore wsX6_in := goodIn_r _ [7] (by decide +kernel) (by decide +kernel)
set_option maxRecDepth 20000 in
theorem gX6_restore_X6_in : GoodIn wsX6_restore (va_wsS RX6 68 yX6_in wsX6_in) := goodIn_app (goodIn_of _ (by decide +kernel)) ggX6_restore_X6_in
set_option maxRecDepth 20000 in
theorem ggX6_restore_X6_refuse : GoodIn wsX6_restore wsX6_refuse := goodIn_r _ [11, 12, 23, 24, 25, 26, 27, 28, 29, 30, 31, 32, 33, 34, 35, 36, 37, 38, 39, 40, 41, 42, 43, 44, 45, 46, 47, 48, 49, 50, 51, 52, 53] (by decide +kernel) (by decide +kernel)
set_option maxRecDepth 20000 in
theorem gX6_restore_X6_refuse : GoodIn wsX6_restore (wsV RX6 197 RX6 yX6_refuse wsX6_refuse) := goodIn_app (goodIn_of _ (by decide +kernel)) ggX6_restore_X6_refuse
set_option maxRecDepth 20000 in
theorem ggX6_restore_X6_remembers : GoodIn wsX6_restore wsX6_remembers := goodIn_r _ [16, 17, 18, 2, 23, 24, 25, 26, 27, 28, 29, 30, 31, 32, 33, 34, 35, 36, 37, 38, 39, 40, 41, 42, 43, 44, 45, 46, 47, 48, 49, 50, 51, 52, 53] (by decide +kernel) (by decide +kernel)
set_option maxRecDepth 20000 in
theorem gX6_restore_X6_remembers : GoodIn wsX6_restore (wsV RX6 270 RX6 yX6_remembers wsX6_remembers) := goodIn_app (goodIn_of _ (by decide +kernel)) ggX6_restore_X6_remembers
set_option maxRecDepth 20000 in
theorem ggX6_restore_X6_told : GoodIn wsX6_restore wsX6_told := goodIn_r _ [22, 12, 23, 24, 25, 26, 27, 28, 29, 30, 31, 32, 33, 34, 35, 36, 37, 38, 39, 40, 41, 42, 43, 44, 45, 46, 47, 48, 49, 50, 51, 52, 53] (by decide +kernel) (by decide +kernel)
set_option maxRecDepth 20000 in
theorem gX6_restore_X6_told : GoodIn wsX6_restore (wsV RX6 203 RX6 yX6_told wsX6_told) := goodIn_app (goodIn_of _ (by decide +kernel)) ggX6_restore_X6_told
set_option maxRecDepth 20000 in
theorem ggX6_undo_X6_refuse : GoodIn wsX6_undo wsX6_refuse := goodIn_r _ [8, 9, 14, 15, 16, 17, 18, 19, 20, 21, 22, 23, 24, 25, 26, 27, 28, 29, 30, 31, 32, 33, 34, 35, 36, 37, 38, 39, 40, 41, 42, 43, 44] (by decide +kernel) (by decide +kernel)
set_option maxRecDepth 20000 in
theorem gX6_undo_X6_refuse : GoodIn wsX6_undo (wsV RX6 197 RX6 yX6_refuse wsX6_refuse) := goodIn_app (goodIn_of _ (by decide +kernel)) ggX6_undo_X6_refuse
set_option maxRecDepth 20000 in
theorem ggX6_undo_X6_told : GoodIn wsX6_undo wsX6_told := goodIn_r _ [13, 9, 14, 15, 16, 17, 18, 19, 20, 21, 22, 23, 24, 25, 26, 27, 28, 29, 30, 31, 32, 33, 34, 35, 36, 37, 38, 39, 40, 41, 42, 43, 44] (by decide +kernel) (by decide +kernel)
set_option maxRecDepth 20000 in
theorem gX6_undo_X6_told : GoodIn wsX6_undo (wsV RX6 203 RX6 yX6_told wsX6_told) := goodIn_app (goodIn_of _ (by decide +kernel)) ggX6_undo_X6_told
set_option maxRecDepth 20000 in
theorem ggX6_save_X6_in : GoodIn wsX6_save wsX6_in := goodIn_r _ [7] (by decide +kernel) (by decide +kernel)
set_option maxRecDepth 20000 in
theorem gX6_save_X6_in : GoodIn wsX6_save (va_wsS RX6 68 yX6_in wsX6_in) := goodIn_app (goodIn_of _ (by decide +kernel)) ggX6_save_X6_in
set_option maxRecDepth 20000 in
theorem ggX6_save_X6_refuse : GoodIn wsX6_save wsX6_refuse := goodIn_r _ [11, 12, 17, 18, 19, 20, 21, 22, 23, 24, 25, 26, 27, 28, 29, 30, 31, 32, 33, 34, 35, 36, 37, 38, 39, 40, 41, 42, 43, 44, 45, 46, 47] (by decide +kernel) (by decide +kernel)
set_option maxRecDepth 20000 in
theorem gX6_save_X6_refuse : GoodIn wsX6_save (wsV RX6 197 RX6 yX6_refuse wsX6_refuse) := goodIn_app (goodIn_of _ (by decide +kernel)) ggX6_save_X6_refuse
set_option maxRecDepth 20000 in
theorem ggX6_save_X6_told : GoodIn wsX6_save wsX6_told := goodIn_r _ [16, 12, 17, 18, 19, 20, 21, 22, 23, 24, 25, 26, 27, 28, 29, 30, 31, 32, 33, 34, 35, 36, 37, 38, 39, 40, 41, 42, 43, 44, 45, 46, 47] (by decide +kernel) (by decide +kernel)
set_option maxRecDepth 20000 in
theorem gX6_save_X6_told : GoodIn wsX6_save (wsV RX6 203 RX6 yX6_told wsX6_told) := goodIn_app (goodIn_of _ (by decide +kernel)) ggX6_save_X6_told
set_option maxRecDepth 20000 in
theorem ggX6_writePlaces_X6_plans : GoodIn wsX6_writePlaces wsX6_plans := goodIn_r _ [8, 2, 3, 9, 10, 11, 7, 12, 13, 14, 15, 16, 17, 18, 19, 20, 21, 22, 23, 24, 25, 26, 27, 28, 29, 30, 31, 32, 33, 34, 35, 36, 37, 38, 39, 40, 41, 42, 43, 44, 45, 46, 47, 48, 49, 50, 51, 52, 53, 54, 55, 66, 67, 68, 69, 70, 71, 72, 73, 74, 75, 76, 77, 78, 79, 80, 81, 82, 83, 84, 85, 86, 87, 88, 89, 90, 91, 92, 93, 94, 95, 96] (by decide +kernel) (by decide +kernel)
set_option maxRecDepth 20000 in
theorem gX6_writePlaces_X6_plans : GoodIn wsX6_writePlaces (wsV RX6 249 RX6 yX6_plans wsX6_plans) := goodIn_app (goodIn_of _ (by decide +kernel)) ggX6_writePlaces_X6_plans
set_option maxRecDepth 20000 in
theorem ggX6_writePlaces_X6_wonByEven : GoodIn wsX6_writePlaces wsX6_wonByEven := goodIn_r _ [12, 13, 14, 15, 7, 16, 2, 17, 18, 19, 20, 21, 22, 23, 24, 25, 26, 27, 28, 29, 30, 31, 32, 33, 34, 35, 36, 66, 67, 68, 69, 70, 71, 72, 73, 74, 75, 76, 77, 78, 79, 80, 81, 82, 83, 84, 85, 86, 87, 88, 89, 90, 91, 92, 93, 94, 95, 96] (by decide +kernel) (by decide +kernel)
set_option maxRecDepth 20000 in
theorem gX6_writePlaces_X6_wonByEven : GoodIn wsX6_writePlaces (wsV RX6 96 RX6 yX6_wonByEven wsX6_wonByEven) := goodIn_app (goodIn_of _ (by decide +kernel)) ggX6_writePlaces_X6_wonByEven
set_option maxRecDepth 20000 in
theorem ggX6_writePlaces_X6_writes : GoodIn wsX6_writePlaces wsX6_writes := goodIn_r _ [59, 60, 1, 66, 67, 68, 69, 70, 71, 72, 73, 74, 75, 76, 77, 78, 79, 80, 81, 82, 83, 84, 85, 86, 87, 88, 89, 90, 91, 92, 93, 94, 95, 96] (by decide +kernel) (by decide +kernel)
set_option maxRecDepth 20000 in
theorem gX6_writePlaces_X6_writes : GoodIn wsX6_writePlaces (wsV RX6 285 RX6 yX6_writes wsX6_writes) := goodIn_app (goodIn_of _ (by decide +kernel)) ggX6_writePlaces_X6_writes
set_option maxRecDepth 20000 in
theorem ggX6_writePlaces_X6_has : GoodIn wsX6_writePlaces wsX6_has := goodIn_r _ [47] (by decide +kernel) (by decide +kernel)
set_option maxRecDepth 20000 in
theorem gX6_writePlaces_X6_has : GoodIn wsX6_writePlaces (va_wsS RX6 102 yX6_has wsX6_has) := goodIn_app (goodIn_of _ (by decide +kernel)) ggX6_writePlaces_X6_has
set_option maxRecDepth 20000 in
theorem ggX6_writePlaces_X6_told : GoodIn wsX6_writePlaces wsX6_told := goodIn_r _ [64, 65, 66, 67, 68, 69, 70, 71, 72, 73, 74, 75, 76, 77, 78, 79, 80, 81, 82, 83, 84, 85, 86, 87, 88, 89, 90, 91, 92, 93, 94, 95, 96] (by decide +kernel) (by decide +kernel)
set_option maxRecDepth 20000 in
theorem gX6_writePlaces_X6_told : GoodIn wsX6_writePlaces (wsV RX6 203 RX6 yX6_told wsX6_told) := goodIn_app (goodIn_of _ (by decide +kernel)) ggX6_writePlaces_X6_told
set_option maxRecDepth 20000 in
theorem ggX6_outputByte_X6_in : GoodIn wsX6_outputByte wsX6_in := goodIn_r _ [6] (by decide +kernel) (by decide +kernel)
set_option maxRecDepth 20000 in
theorem gX6_outputByte_X6_in : GoodIn wsX6_outputByte (va_wsS RX6 68 yX6_in wsX6_in) := goodIn_app (goodIn_of _ (by decide +kernel)) ggX6_outputByte_X6_in
set_option maxRecDepth 20000 in
theorem ggX6_outputByte_X6_refuse : GoodIn wsX6_outputByte wsX6_refuse := goodIn_r _ [10, 11, 16, 17, 18, 19, 20, 21, 22, 23, 24, 25, 26, 27, 28, 29, 30, 31, 32, 33, 34, 35, 36, 37, 38, 39, 40, 41, 42, 43, 44, 45, 46] (by decide +kernel) (by decide +kernel)
set_option maxRecDepth 20000 in
theorem gX6_outputByte_X6_refuse : GoodIn wsX6_outputByte (wsV RX6 197 RX6 yX6_refuse wsX6_refuse) := goodIn_app (goodIn_of _ (by decide +kernel)) ggX6_outputByte_X6_refuse
set_option maxRecDepth 20000 in
theorem ggX6_outputByte_X6_told : GoodIn wsX6_outputByte wsX6_told := goodIn_r _ [15, 11, 16, 17, 18, 19, 20, 21, 22, 23, 24, 25, 26, 27, 28, 29, 30, 31, 32, 33, 34, 35, 36, 37, 38, 39, 40, 41, 42, 43, 44, 45, 46] (by decide +kernel) (by decide +kernel)
set_option maxRecDepth 20000 in
theorem gX6_outputByte_X6_told : GoodIn wsX6_outputByte (wsV RX6 203 RX6 yX6_told wsX6_told) := goodIn_app (goodIn_of _ (by decide +kernel)) ggX6_outputByte_X6_told
theorem dX6_init_0 : decode cX6_init 0 = .ok (.aload_n 0, 1) := by decide +kernel
theorem dX6_init_1 : decode cX6_init 1 = .ok (.invokespecial 1, 3) := by decide +kernel
theorem dX6_init_4 : decode cX6_init 4 = .ok (.aload_n 0, 1) := by decide +kernel
theorem dX6_init_5 : decode cX6_init 5 = .ok (.bipush 25, 2) := by decide +kernel
theorem dX6_init_7 : decode cX6_init 7 = .ok (.newarray .int, 2) := by decide +kernel
theorem dX6_init_9 : decode cX6_init 9 = .ok (.dup, 1) := by decide +kernel
theorem dX6_init_10 : decode cX6_init 10 = .ok (.iconst 0, 1) := by decide +kernel
theorem dX6_init_11 : decode cX6_init 11 = .ok (.bipush 103, 2) := by decide +kernel
theorem dX6_init_13 : decode cX6_init 13 = .ok (.iastore, 1) := by decide +kernel
theorem dX6_init_14 : decode cX6_init 14 = .ok (.dup, 1) := by decide +kernel
theorem dX6_init_15 : decode cX6_init 15 = .ok (.iconst 1, 1) := by decide +kernel
theorem dX6_init_16 : decode cX6_init 16 = .ok (.bipush 97, 2) := by decide +kernel
theorem dX6_init_18 : decode cX6_init 18 = .ok (.iastore, 1) := by decide +kernel
theorem dX6_init_19 : decode cX6_init 19 = .ok (.dup, 1) := by decide +kernel
theorem dX6_init_20 : decode cX6_init 20 = .ok (.iconst 2, 1) := by decide +kernel
theorem dX6_init_21 : decode cX6_init 21 = .ok (.bipush 109, 2) := by decide +kernel
theorem dX6_init_23 : decode cX6_init 23 = .ok (.iastore, 1) := by decide +kernel
theorem dX6_init_24 : decode cX6_init 24 = .ok (.dup, 1) := by decide +kernel
theorem dX6_init_25 : decode cX6_init 25 = .ok (.iconst 3, 1) := by decide +kernel
theorem dX6_init_26 : decode cX6_init 26 = .ok (.bipush 101, 2) := by decide +kernel
theorem dX6_init_28 : decode cX6_init 28 = .ok (.iastore, 1) := by decide +kernel
theorem dX6_init_29 : decode cX6_init 29 = .ok (.dup, 1) := by decide +kernel
theorem dX6_init_30 : decode cX6_init 30 = .ok (.iconst 4, 1) := by decide +kernel
theorem dX6_init_31 : decode cX6_init 31 = .ok (.iconst 0, 1) := by decide +kernel
theorem dX6_init_32 : decode cX6_init 32 = .ok (.iastore, 1) := by decide +kernel
theorem dX6_init_33 : decode cX6_init 33 = .ok (.dup, 1) := by decide +kernel
theorem dX6_init_34 : decode cX6_init 34 = .ok (.iconst 5, 1) := by decide +kernel
theorem dX6_init_35 : decode cX6_init 35 = .ok (.bipush 101, 2) := by decide +kernel
theorem dX6_init_37 : decode cX6_init 37 = .ok (.iastore, 1) := by decide +kernel
theorem dX6_init_38 : decode cX6_init 38 = .ok (.dup, 1) := by decide +kernel
theorem dX6_init_39 : decode cX6_init 39 = .ok (.bipush 6, 2) := by decide +kernel
theorem dX6_init_41 : decode cX6_init 41 = .ok (.bipush 118, 2) := by decide +kernel
theorem dX6_init_43 : decode cX6_init 43 = .ok (.iastore, 1) := by decide +kernel
theorem dX6_init_44 : decode cX6_init 44 = .ok (.dup, 1) := by decide +kernel
theorem dX6_init_45 : decode cX6_init 45 = .ok (.bipush 7, 2) := by decide +kernel
theorem dX6_init_47 : decode cX6_init 47 = .ok (.bipush 101, 2) := by decide +kernel
theorem dX6_init_49 : decode cX6_init 49 = .ok (.iastore, 1) := by decide +kernel
theorem dX6_init_50 : decode cX6_init 50 = .ok (.dup, 1) := by decide +kernel
theorem dX6_init_51 : decode cX6_init 51 = .ok (.bipush 8, 2) := by decide +kernel
theorem dX6_init_53 : decode cX6_init 53 = .ok (.bipush 110, 2) := by decide +kernel
theorem dX6_init_55 : decode cX6_init 55 = .ok (.iastore, 1) := by decide +kernel
theorem dX6_init_56 : decode cX6_init 56 = .ok (.dup, 1) := by decide +kernel
theorem dX6_init_57 : decode cX6_init 57 = .ok (.bipush 9, 2) := by decide +kernel
theorem dX6_init_59 : decode cX6_init 59 = .ok (.iconst 0, 1) := by decide +kernel
theorem dX6_init_60 : decode cX6_init 60 = .ok (.iastore, 1) := by decide +kernel
theorem dX6_init_61 : decode cX6_init 61 = .ok (.dup, 1) := by decide +kernel
theorem dX6_init_62 : decode cX6_init 62 = .ok (.bipush 10, 2) := by decide +kernel
theorem dX6_init_64 : decode cX6_init 64 = .ok (.bipush 111, 2) := by decide +kernel
theorem dX6_init_66 : decode cX6_init 66 = .ok (.iastore, 1) := by decide +kernel
theorem dX6_init_67 : decode cX6_init 67 = .ok (.dup, 1) := by decide +kernel
theorem dX6_init_68 : decode cX6_init 68 = .ok (.bipush 11, 2) := by decide +kernel
theorem dX6_init_70 : decode cX6_init 70 = .ok (.bipush 100, 2) := by decide +kernel
theorem dX6_init_72 : decode cX6_init 72 = .ok (.iastore, 1) := by decide +kernel
theorem dX6_init_73 : decode cX6_init 73 = .ok (.dup, 1) := by decide +kernel
theorem dX6_init_74 : decode cX6_init 74 = .ok (.bipush 12, 2) := by decide +kernel
theorem dX6_init_76 : decode cX6_init 76 = .ok (.bipush 100, 2) := by decide +kernel
theorem dX6_init_78 : decode cX6_init 78 = .ok (.iastore, 1) := by decide +kernel
theorem dX6_init_79 : decode cX6_init 79 = .ok (.dup, 1) := by decide +kernel
theorem dX6_init_80 : decode cX6_init 80 = .ok (.bipush 13, 2) := by decide +kernel
theorem dX6_init_82 : decode cX6_init 82 = .ok (.iconst 0, 1) := by decide +kernel
theorem dX6_init_83 : decode cX6_init 83 = .ok (.iastore, 1) := by decide +kernel
theorem dX6_init_84 : decode cX6_init 84 = .ok (.dup, 1) := by decide +kernel
theorem dX6_init_85 : decode cX6_init 85 = .ok (.bipush 14, 2) := by decide +kernel
theorem dX6_init_87 : decode cX6_init 87 = .ok (.iconst 0, 1) := by decide +kernel
theorem dX6_init_88 : decode cX6_init 88 = .ok (.iastore, 1) := by decide +kernel
theorem dX6_init_89 : decode cX6_init 89 = .ok (.dup, 1) := by decide +kernel
theorem dX6_init_90 : decode cX6_init 90 = .ok (.bipush 15, 2) := by decide +kernel
theorem dX6_init_92 : decode cX6_init 92 = .ok (.bipush 109, 2) := by decide +kernel
theorem dX6_init_94 : decode cX6_init 94 = .ok (.iastore, 1) := by decide +kernel
theorem dX6_init_95 : decode cX6_init 95 = .ok (.dup, 1) := by decide +kernel
theorem dX6_init_96 : decode cX6_init 96 = .ok (.bipush 16, 2) := by decide +kernel
theorem dX6_init_98 : decode cX6_init 98 = .ok (.bipush 111, 2) := by decide +kernel
theorem dX6_init_100 : decode cX6_init 100 = .ok (.iastore, 1) := by decide +kernel
theorem dX6_init_101 : decode cX6_init 101 = .ok (.dup, 1) := by decide +kernel
theorem dX6_init_102 : decode cX6_init 102 = .ok (.bipush 17, 2) := by decide +kernel
theorem dX6_init_104 : decode cX6_init 104 = .ok (.bipush 118, 2) := by decide +kernel
theorem dX6_init_106 : decode cX6_init 106 = .ok (.iastore, 1) := by decide +kernel
theorem dX6_init_107 : decode cX6_init 107 = .ok (.dup, 1) := by decide +kernel
theorem dX6_init_108 : decode cX6_init 108 = .ok (.bipush 18, 2) := by decide +kernel
theorem dX6_init_110 : decode cX6_init 110 = .ok (.bipush 101, 2) := by decide +kernel
theorem dX6_init_112 : decode cX6_init 112 = .ok (.iastore, 1) := by decide +kernel
theorem dX6_init_113 : decode cX6_init 113 = .ok (.dup, 1) := by decide +kernel
theorem dX6_init_114 : decode cX6_init 114 = .ok (.bipush 19, 2) := by decide +kernel
theorem dX6_init_116 : decode cX6_init 116 = .ok (.iconst 0, 1) := by decide +kernel
theorem dX6_init_117 : decode cX6_init 117 = .ok (.iastore, 1) := by decide +kernel
theorem dX6_init_118 : decode cX6_init 118 = .ok (.dup, 1) := by decide +kernel
theorem dX6_init_119 : decode cX6_init 119 = .ok (.bipush 20, 2) := by decide +kernel
theorem dX6_init_121 : decode cX6_init 121 = .ok (.bipush 116, 2) := by decide +kernel
theorem dX6_init_123 : decode cX6_init 123 = .ok (.iastore, 1) := by decide +kernel
theorem dX6_init_124 : decode cX6_init 124 = .ok (.dup, 1) := by decide +kernel
theorem dX6_init_125 : decode cX6_init 125 = .ok (.bipush 21, 2) := by decide +kernel
theorem dX6_init_127 : decode cX6_init 127 = .ok (.bipush 111, 2) := by decide +kernel
theorem dX6_init_129 : decode cX6_init 129 = .ok (.iastore, 1) := by decide +kernel
theorem dX6_init_130 : decode cX6_init 130 = .ok (.dup, 1) := by decide +kernel
theorem dX6_init_131 : decode cX6_init 131 = .ok (.bipush 22, 2) := by decide +kernel
theorem dX6_init_133 : decode cX6_init 133 = .ok (.bipush 107, 2) := by decide +kernel
theorem dX6_init_135 : decode cX6_init 135 = .ok (.iastore, 1) := by decide +kernel
theorem dX6_init_136 : decode cX6_init 136 = .ok (.dup, 1) := by decide +kernel
theorem dX6_init_137 : decode cX6_init 137 = .ok (.bipush 23, 2) := by decide +kernel
theorem dX6_init_139 : decode cX6_init 139 = .ok (.bipush 101, 2) := by decide +kernel
theorem dX6_init_141 : decode cX6_init 141 = .ok (.iastore, 1) := by decide +kernel
theorem dX6_init_142 : decode cX6_init 142 = .ok (.dup, 1) := by decide +kernel
theorem dX6_init_143 : decode cX6_init 143 = .ok (.bipush 24, 2) := by decide +kernel
theorem dX6_init_145 : decode cX6_init 145 = .ok (.bipush 110, 2) := by decide +kernel
theorem dX6_init_147 : decode cX6_init 147 = .ok (.iastore, 1) := by decide +kernel
theorem dX6_init_148 : decode cX6_init 148 = .ok (.putfield 7, 3) := by decide +kernel
theorem dX6_init_151 : decode cX6_init 151 = .ok (.aload_n 0, 1) := by decide +kernel
theorem dX6_init_152 : decode cX6_init 152 = .ok (.sipush 176, 3) := by decide +kernel
theorem dX6_init_155 : decode cX6_init 155 = .ok (.newarray .int, 2) := by decide +kernel
theorem dX6_init_157 : decode cX6_init 157 = .ok (.putfield 13, 3) := by decide +kernel
theorem dX6_init_160 : decode cX6_init 160 = .ok (.aload_n 0, 1) := by decide +kernel
theorem dX6_init_161 : decode cX6_init 161 = .ok (.sipush 176, 3) := by decide +kernel
theorem dX6_init_164 : decode cX6_init 164 = .ok (.newarray .int, 2) := by decide +kernel
theorem dX6_init_166 : decode cX6_init 166 = .ok (.putfield 16, 3) := by decide +kernel
theorem dX6_init_169 : decode cX6_init 169 = .ok (.aload_n 0, 1) := by decide +kernel
theorem dX6_init_170 : decode cX6_init 170 = .ok (.sipush 1760, 3) := by decide +kernel
theorem dX6_init_173 : decode cX6_init 173 = .ok (.newarray .int, 2) := by decide +kernel
theorem dX6_init_175 : decode cX6_init 175 = .ok (.putfield 19, 3) := by decide +kernel
theorem dX6_init_178 : decode cX6_init 178 = .ok (.aload_n 0, 1) := by decide +kernel
theorem dX6_init_179 : decode cX6_init 179 = .ok (.sipush 352, 3) := by decide +kernel
theorem dX6_init_182 : decode cX6_init 182 = .ok (.newarray .int, 2) := by decide +kernel
theorem dX6_init_184 : decode cX6_init 184 = .ok (.putfield 22, 3) := by decide +kernel
theorem dX6_init_187 : decode cX6_init 187 = .ok (.aload_n 0, 1) := by decide +kernel
theorem dX6_init_188 : decode cX6_init 188 = .ok (.sipush 600, 3) := by decide +kernel
theorem dX6_init_191 : decode cX6_init 191 = .ok (.newarray .byte, 2) := by decide +kernel
theorem dX6_init_193 : decode cX6_init 193 = .ok (.putfield 25, 3) := by decide +kernel
theorem dX6_init_196 : decode cX6_init 196 = .ok (.aload_n 0, 1) := by decide +kernel
theorem dX6_init_197 : decode cX6_init 197 = .ok (.sipush 200, 3) := by decide +kernel
theorem dX6_init_200 : decode cX6_init 200 = .ok (.newarray .byte, 2) := by decide +kernel
theorem dX6_init_202 : decode cX6_init 202 = .ok (.putfield 29, 3) := by decide +kernel
theorem dX6_init_205 : decode cX6_init 205 = .ok (.aload_n 0, 1) := by decide +kernel
theorem dX6_init_206 : decode cX6_init 206 = .ok (.iconst (-1), 1) := by decide +kernel
theorem dX6_init_207 : decode cX6_init 207 = .ok (.putfield 32, 3) := by decide +kernel
theorem dX6_init_210 : decode cX6_init 210 = .ok (.aload_n 0, 1) := by decide +kernel
theorem dX6_init_211 : decode cX6_init 211 = .ok (.bipush 61, 2) := by decide +kernel
theorem dX6_init_213 : decode cX6_init 213 = .ok (.newarray .int, 2) := by decide +kernel
theorem dX6_init_215 : decode cX6_init 215 = .ok (.putfield 36, 3) := by decide +kernel
theorem dX6_init_218 : decode cX6_init 218 = .ok (.aload_n 0, 1) := by decide +kernel
theorem dX6_init_219 : decode cX6_init 219 = .ok (.bipush 12, 2) := by decide +kernel
theorem dX6_init_221 : decode cX6_init 221 = .ok (.newarray .int, 2) := by decide +kernel
theorem dX6_init_223 : decode cX6_init 223 = .ok (.putfield 39, 3) := by decide +kernel
theorem dX6_init_226 : decode cX6_init 226 = .ok (.aload_n 0, 1) := by decide +kernel
theorem dX6_init_227 : decode cX6_init 227 = .ok (.bipush 20, 2) := by decide +kernel
theorem dX6_init_229 : decode cX6_init 229 = .ok (.newarray .int, 2) := by decide +kernel
theorem dX6_init_231 : decode cX6_init 231 = .ok (.putfield 42, 3) := by decide +kernel
theorem dX6_init_234 : decode cX6_init 234 = .ok (.aload_n 0, 1) := by decide +kernel
theorem dX6_init_235 : decode cX6_init 235 = .ok (.bipush 20, 2) := by decide +kernel
theorem dX6_init_237 : decode cX6_init 237 = .ok (.newarray .int, 2) := by decide +kernel
theorem dX6_init_239 : decode cX6_init 239 = .ok (.putfield 45, 3) := by decide +kernel
theorem dX6_init_242 : decode cX6_init 242 = .ok (.aload_n 0, 1) := by decide +kernel
theorem dX6_init_243 : decode cX6_init 243 = .ok (.bipush 20, 2) := by decide +kernel
theorem dX6_init_245 : decode cX6_init 245 = .ok (.newarray .int, 2) := by decide +kernel
theorem dX6_init_247 : decode cX6_init 247 = .ok (.putfield 48, 3) := by decide +kernel
theorem dX6_init_250 : decode cX6_init 250 = .ok (.aload_n 0, 1) := by decide +kernel
theorem dX6_init_251 : decode cX6_init 251 = .ok (.bipush 20, 2) := by decide +kernel
theorem dX6_init_253 : decode cX6_init 253 = .ok (.newarray .int, 2) := by decide +kernel
theorem dX6_init_255 : decode cX6_init 255 = .ok (.putfield 51, 3) := by decide +kernel
theorem dX6_init_258 : decode cX6_init 258 = .ok (.aload_n 0, 1) := by decide +kernel
theorem dX6_init_259 : decode cX6_init 259 = .ok (.iconst 0, 1) := by decide +kernel
theorem dX6_init_260 : decode cX6_init 260 = .ok (.iconst 0, 1) := by decide +kernel
theorem dX6_init_261 : decode cX6_init 261 = .ok (.invokevirtual 54, 3) := by decide +kernel
theorem dX6_init_264 : decode cX6_init 264 = .ok (.aload_n 0, 1) := by decide +kernel
theorem dX6_init_265 : decode cX6_init 265 = .ok (.iconst 0, 1) := by decide +kernel
theorem dX6_init_266 : decode cX6_init 266 = .ok (.iconst 1, 1) := by decide +kernel
theorem dX6_init_267 : decode cX6_init 267 = .ok (.invokevirtual 54, 3) := by decide +kernel
theorem dX6_init_270 : decode cX6_init 270 = .ok (.aload_n 0, 1) := by decide +kernel
theorem dX6_init_271 : decode cX6_init 271 = .ok (.iconst 1, 1) := by decide +kernel
theorem dX6_init_272 : decode cX6_init 272 = .ok (.iconst 2, 1) := by decide +kernel
theorem dX6_init_273 : decode cX6_init 273 = .ok (.invokevirtual 54, 3) := by decide +kernel
theorem dX6_init_276 : decode cX6_init 276 = .ok (.aload_n 0, 1) := by decide +kernel
theorem dX6_init_277 : decode cX6_init 277 = .ok (.iconst 1, 1) := by decide +kernel
theorem dX6_init_278 : decode cX6_init 278 = .ok (.iconst 3, 1) := by decide +kernel
theorem dX6_init_279 : decode cX6_init 279 = .ok (.invokevirtual 54, 3) := by decide +kernel
theorem dX6_init_282 : decode cX6_init 282 = .ok (.aload_n 0, 1) := by decide +kernel
theorem dX6_init_283 : decode cX6_init 283 = .ok (.iconst 0, 1) := by decide +kernel
theorem dX6_init_284 : decode cX6_init 284 = .ok (.iconst 1, 1) := by decide +kernel
theorem dX6_init_285 : decode cX6_init 285 = .ok (.invokevirtual 58, 3) := by decide +kernel
theorem dX6_init_288 : decode cX6_init 288 = .ok (.aload_n 0, 1) := by decide +kernel
theorem dX6_init_289 : decode cX6_init 289 = .ok (.iconst 0, 1) := by decide +kernel
theorem dX6_init_290 : decode cX6_init 290 = .ok (.iconst 2, 1) := by decide +kernel
theorem dX6_init_291 : decode cX6_init 291 = .ok (.invokevirtual 58, 3) := by decide +kernel
theorem dX6_init_294 : decode cX6_init 294 = .ok (.aload_n 0, 1) := by decide +kernel
theorem dX6_init_295 : decode cX6_init 295 = .ok (.iconst 1, 1) := by decide +kernel
theorem dX6_init_296 : decode cX6_init 296 = .ok (.iconst 0, 1) := by decide +kernel
theorem dX6_init_297 : decode cX6_init 297 = .ok (.invokevirtual 58, 3) := by decide +kernel
theorem dX6_init_300 : decode cX6_init 300 = .ok (.aload_n 0, 1) := by decide +kernel
theorem dX6_init_301 : decode cX6_init 301 = .ok (.iconst 1, 1) := by decide +kernel
theorem dX6_init_302 : decode cX6_init 302 = .ok (.iconst 3, 1) := by decide +kernel
theorem dX6_init_303 : decode cX6_init 303 = .ok (.invokevirtual 58, 3) := by decide +kernel
theorem dX6_init_306 : decode cX6_init 306 = .ok (.aload_n 0, 1) := by decide +kernel
theorem dX6_init_307 : decode cX6_init 307 = .ok (.iconst 2, 1) := by decide +kernel
theorem dX6_init_308 : decode cX6_init 308 = .ok (.iconst 0, 1) := by decide +kernel
theorem dX6_init_309 : decode cX6_init 309 = .ok (.invokevirtual 58, 3) := by decide +kernel
theorem dX6_init_312 : decode cX6_init 312 = .ok (.aload_n 0, 1) := by decide +kernel
theorem dX6_init_313 : decode cX6_init 313 = .ok (.iconst 2, 1) := by decide +kernel
theorem dX6_init_314 : decode cX6_init 314 = .ok (.iconst 3, 1) := by decide +kernel
theorem dX6_init_315 : decode cX6_init 315 = .ok (.invokevirtual 58, 3) := by decide +kernel
theorem dX6_init_318 : decode cX6_init 318 = .ok (.aload_n 0, 1) := by decide +kernel
theorem dX6_init_319 : decode cX6_init 319 = .ok (.iconst 3, 1) := by decide +kernel
theorem dX6_init_320 : decode cX6_init 320 = .ok (.iconst 2, 1) := by decide +kernel
theorem dX6_init_321 : decode cX6_init 321 = .ok (.invokevirtual 58, 3) := by decide +kernel
theorem dX6_init_324 : decode cX6_init 324 = .ok (.aload_n 0, 1) := by decide +kernel
theorem dX6_init_325 : decode cX6_init 325 = .ok (.iconst 0, 1) := by decide +kernel
theorem dX6_init_326 : decode cX6_init 326 = .ok (.invokevirtual 61, 3) := by decide +kernel
theorem dX6_init_329 : decode cX6_init 329 = .ok (.return_, 1) := by decide +kernel
theorem dX6_thrown_0 : decode cX6_thrown 0 = .ok (.aload_n 0, 1) := by decide +kernel
theorem dX6_thrown_1 : decode cX6_thrown 1 = .ok (.getfield 65, 3) := by decide +kernel
theorem dX6_thrown_4 : decode cX6_thrown 4 = .ok (.ireturn, 1) := by decide +kernel
theorem dX6_refuse_0 : decode cX6_refuse 0 = .ok (.aload_n 0, 1) := by decide +kernel
theorem dX6_refuse_1 : decode cX6_refuse 1 = .ok (.iload_n 1, 1) := by decide +kernel
theorem dX6_refuse_2 : decode cX6_refuse 2 = .ok (.putfield 65, 3) := by decide +kernel
theorem dX6_refuse_5 : decode cX6_refuse 5 = .ok (.iconst 0, 1) := by decide +kernel
theorem dX6_refuse_6 : decode cX6_refuse 6 = .ok (.ireturn, 1) := by decide +kernel
theorem dX6_told_0 : decode cX6_told 0 = .ok (.aload_n 0, 1) := by decide +kernel
theorem dX6_told_1 : decode cX6_told 1 = .ok (.iconst 0, 1) := by decide +kernel
theorem dX6_told_2 : decode cX6_told 2 = .ok (.putfield 65, 3) := by decide +kernel
theorem dX6_told_5 : decode cX6_told 5 = .ok (.iload_n 1, 1) := by decide +kernel
theorem dX6_told_6 : decode cX6_told 6 = .ok (.ireturn, 1) := by decide +kernel
theorem dX6_in_0 : decode cX6_in 0 = .ok (.iload_n 0, 1) := by decide +kernel
theorem dX6_in_1 : decode cX6_in 1 = .ok (.iload_n 1, 1) := by decide +kernel
theorem dX6_in_2 : decode cX6_in 2 = .ok (.if_icmp .lt 12, 3) := by decide +kernel
theorem dX6_in_5 : decode cX6_in 5 = .ok (.iload_n 0, 1) := by decide +kernel
theorem dX6_in_6 : decode cX6_in 6 = .ok (.iload_n 2, 1) := by decide +kernel
theorem dX6_in_7 : decode cX6_in 7 = .ok (.if_icmp .gt 7, 3) := by decide +kernel
theorem dX6_in_10 : decode cX6_in 10 = .ok (.iconst 1, 1) := by decide +kernel
theorem dX6_in_11 : decode cX6_in 11 = .ok (.goto 4, 3) := by decide +kernel
theorem dX6_in_14 : decode cX6_in 14 = .ok (.iconst 0, 1) := by decide +kernel
theorem dX6_in_15 : decode cX6_in 15 = .ok (.ireturn, 1) := by decide +kernel
theorem dX6_isPlace_0 : decode cX6_isPlace 0 = .ok (.iload_n 1, 1) := by decide +kernel
theorem dX6_isPlace_1 : decode cX6_isPlace 1 = .ok (.iconst 0, 1) := by decide +kernel
theorem dX6_isPlace_2 : decode cX6_isPlace 2 = .ok (.aload_n 0, 1) := by decide +kernel
theorem dX6_isPlace_3 : decode cX6_isPlace 3 = .ok (.getfield 13, 3) := by decide +kernel
theorem dX6_isPlace_6 : decode cX6_isPlace 6 = .ok (.iconst 0, 1) := by decide +kernel
theorem dX6_isPlace_7 : decode cX6_isPlace 7 = .ok (.iaload, 1) := by decide +kernel
theorem dX6_isPlace_8 : decode cX6_isPlace 8 = .ok (.iconst 1, 1) := by decide +kernel
theorem dX6_isPlace_9 : decode cX6_isPlace 9 = .ok (.isub, 1) := by decide +kernel
theorem dX6_isPlace_10 : decode cX6_isPlace 10 = .ok (.invokestatic 68, 3) := by decide +kernel
theorem dX6_isPlace_13 : decode cX6_isPlace 13 = .ok (.ireturn, 1) := by decide +kernel
theorem dX6_isMove_0 : decode cX6_isMove 0 = .ok (.iload_n 1, 1) := by decide +kernel
theorem dX6_isMove_1 : decode cX6_isMove 1 = .ok (.iconst 0, 1) := by decide +kernel
theorem dX6_isMove_2 : decode cX6_isMove 2 = .ok (.aload_n 0, 1) := by decide +kernel
theorem dX6_isMove_3 : decode cX6_isMove 3 = .ok (.getfield 13, 3) := by decide +kernel
theorem dX6_isMove_6 : decode cX6_isMove 6 = .ok (.iconst 1, 1) := by decide +kernel
theorem dX6_isMove_7 : decode cX6_isMove 7 = .ok (.iaload, 1) := by decide +kernel
theorem dX6_isMove_8 : decode cX6_isMove 8 = .ok (.iconst 1, 1) := by decide +kernel
theorem dX6_isMove_9 : decode cX6_isMove 9 = .ok (.isub, 1) := by decide +kernel
theorem dX6_isMove_10 : decode cX6_isMove 10 = .ok (.invokestatic 68, 3) := by decide +kernel
theorem dX6_isMove_13 : decode cX6_isMove 13 = .ok (.ireturn, 1) := by decide +kernel
theorem dX6_isSet_0 : decode cX6_isSet 0 = .ok (.iload_n 1, 1) := by decide +kernel
theorem dX6_isSet_1 : decode cX6_isSet 1 = .ok (.ifCond .lt 18, 3) := by decide +kernel
theorem dX6_isSet_4 : decode cX6_isSet 4 = .ok (.iload_n 1, 1) := by decide +kernel
theorem dX6_isSet_5 : decode cX6_isSet 5 = .ok (.aload_n 0, 1) := by decide +kernel
theorem dX6_isSet_6 : decode cX6_isSet 6 = .ok (.getfield 13, 3) := by decide +kernel
theorem dX6_isSet_9 : decode cX6_isSet 9 = .ok (.iconst 0, 1) := by decide +kernel
theorem dX6_isSet_10 : decode cX6_isSet 10 = .ok (.iaload, 1) := by decide +kernel
theorem dX6_isSet_11 : decode cX6_isSet 11 = .ok (.ishr, 1) := by decide +kernel
theorem dX6_isSet_12 : decode cX6_isSet 12 = .ok (.ifCond .ne 7, 3) := by decide +kernel
theorem dX6_isSet_15 : decode cX6_isSet 15 = .ok (.iconst 1, 1) := by decide +kernel
theorem dX6_isSet_16 : decode cX6_isSet 16 = .ok (.goto 4, 3) := by decide +kernel
theorem dX6_isSet_19 : decode cX6_isSet 19 = .ok (.iconst 0, 1) := by decide +kernel
theorem dX6_isSet_20 : decode cX6_isSet 20 = .ok (.ireturn, 1) := by decide +kernel
theorem dX6_has_0 : decode cX6_has 0 = .ok (.iload_n 0, 1) := by decide +kernel
theorem dX6_has_1 : decode cX6_has 1 = .ok (.iload_n 1, 1) := by decide +kernel
theorem dX6_has_2 : decode cX6_has 2 = .ok (.ishr, 1) := by decide +kernel
theorem dX6_has_3 : decode cX6_has 3 = .ok (.iconst 1, 1) := by decide +kernel
theorem dX6_has_4 : decode cX6_has 4 = .ok (.iand, 1) := by decide +kernel
theorem dX6_has_5 : decode cX6_has 5 = .ok (.iconst 1, 1) := by decide +kernel
theorem dX6_has_6 : decode cX6_has 6 = .ok (.if_icmp .ne 7, 3) := by decide +kernel
theorem dX6_has_9 : decode cX6_has 9 = .ok (.iconst 1, 1) := by decide +kernel
theorem dX6_has_10 : decode cX6_has 10 = .ok (.goto 4, 3) := by decide +kernel
theorem dX6_has_13 : decode cX6_has 13 = .ok (.iconst 0, 1) := by decide +kernel
theorem dX6_has_14 : decode cX6_has 14 = .ok (.ireturn, 1) := by decide +kernel
theorem dX6_joins_0 : decode cX6_joins 0 = .ok (.aload_n 0, 1) := by decide +kernel
theorem dX6_joins_1 : decode cX6_joins 1 = .ok (.getfield 13, 3) := by decide +kernel
theorem dX6_joins_4 : decode cX6_joins 4 = .ok (.iconst 4, 1) := by decide +kernel
theorem dX6_joins_5 : decode cX6_joins 5 = .ok (.aload_n 0, 1) := by decide +kernel
theorem dX6_joins_6 : decode cX6_joins 6 = .ok (.getfield 13, 3) := by decide +kernel
theorem dX6_joins_9 : decode cX6_joins 9 = .ok (.iconst 0, 1) := by decide +kernel
theorem dX6_joins_10 : decode cX6_joins 10 = .ok (.iaload, 1) := by decide +kernel
theorem dX6_joins_11 : decode cX6_joins 11 = .ok (.iadd, 1) := by decide +kernel
theorem dX6_joins_12 : decode cX6_joins 12 = .ok (.iload_n 1, 1) := by decide +kernel
theorem dX6_joins_13 : decode cX6_joins 13 = .ok (.iastore, 1) := by decide +kernel
theorem dX6_joins_14 : decode cX6_joins 14 = .ok (.aload_n 0, 1) := by decide +kernel
theorem dX6_joins_15 : decode cX6_joins 15 = .ok (.getfield 13, 3) := by decide +kernel
theorem dX6_joins_18 : decode cX6_joins 18 = .ok (.bipush 24, 2) := by decide +kernel
theorem dX6_joins_20 : decode cX6_joins 20 = .ok (.aload_n 0, 1) := by decide +kernel
theorem dX6_joins_21 : decode cX6_joins 21 = .ok (.getfield 13, 3) := by decide +kernel
theorem dX6_joins_24 : decode cX6_joins 24 = .ok (.iconst 0, 1) := by decide +kernel
theorem dX6_joins_25 : decode cX6_joins 25 = .ok (.iaload, 1) := by decide +kernel
theorem dX6_joins_26 : decode cX6_joins 26 = .ok (.iadd, 1) := by decide +kernel
theorem dX6_joins_27 : decode cX6_joins 27 = .ok (.iload_n 2, 1) := by decide +kernel
theorem dX6_joins_28 : decode cX6_joins 28 = .ok (.iastore, 1) := by decide +kernel
theorem dX6_joins_29 : decode cX6_joins 29 = .ok (.aload_n 0, 1) := by decide +kernel
theorem dX6_joins_30 : decode cX6_joins 30 = .ok (.getfield 13, 3) := by decide +kernel
theorem dX6_joins_33 : decode cX6_joins 33 = .ok (.iconst 0, 1) := by decide +kernel
theorem dX6_joins_34 : decode cX6_joins 34 = .ok (.dup2, 1) := by decide +kernel
theorem dX6_joins_35 : decode cX6_joins 35 = .ok (.iaload, 1) := by decide +kernel
theorem dX6_joins_36 : decode cX6_joins 36 = .ok (.iconst 1, 1) := by decide +kernel
theorem dX6_joins_37 : decode cX6_joins 37 = .ok (.iadd, 1) := by decide +kernel
theorem dX6_joins_38 : decode cX6_joins 38 = .ok (.iastore, 1) := by decide +kernel
theorem dX6_joins_39 : decode cX6_joins 39 = .ok (.return_, 1) := by decide +kernel
theorem dX6_leads_0 : decode cX6_leads 0 = .ok (.aload_n 0, 1) := by decide +kernel
theorem dX6_leads_1 : decode cX6_leads 1 = .ok (.getfield 13, 3) := by decide +kernel
theorem dX6_leads_4 : decode cX6_leads 4 = .ok (.bipush 44, 2) := by decide +kernel
theorem dX6_leads_6 : decode cX6_leads 6 = .ok (.aload_n 0, 1) := by decide +kernel
theorem dX6_leads_7 : decode cX6_leads 7 = .ok (.getfield 13, 3) := by decide +kernel
theorem dX6_leads_10 : decode cX6_leads 10 = .ok (.iconst 1, 1) := by decide +kernel
theorem dX6_leads_11 : decode cX6_leads 11 = .ok (.iaload, 1) := by decide +kernel
theorem dX6_leads_12 : decode cX6_leads 12 = .ok (.iadd, 1) := by decide +kernel
theorem dX6_leads_13 : decode cX6_leads 13 = .ok (.iload_n 1, 1) := by decide +kernel
theorem dX6_leads_14 : decode cX6_leads 14 = .ok (.iastore, 1) := by decide +kernel
theorem dX6_leads_15 : decode cX6_leads 15 = .ok (.aload_n 0, 1) := by decide +kernel
theorem dX6_leads_16 : decode cX6_leads 16 = .ok (.getfield 13, 3) := by decide +kernel
theorem dX6_leads_19 : decode cX6_leads 19 = .ok (.bipush 105, 2) := by decide +kernel
theorem dX6_leads_21 : decode cX6_leads 21 = .ok (.aload_n 0, 1) := by decide +kernel
theorem dX6_leads_22 : decode cX6_leads 22 = .ok (.getfield 13, 3) := by decide +kernel
theorem dX6_leads_25 : decode cX6_leads 25 = .ok (.iconst 1, 1) := by decide +kernel
theorem dX6_leads_26 : decode cX6_leads 26 = .ok (.iaload, 1) := by decide +kernel
theorem dX6_leads_27 : decode cX6_leads 27 = .ok (.iadd, 1) := by decide +kernel
theorem dX6_leads_28 : decode cX6_leads 28 = .ok (.iload_n 2, 1) := by decide +kernel
theorem dX6_leads_29 : decode cX6_leads 29 = .ok (.iastore, 1) := by decide +kernel
theorem dX6_leads_30 : decode cX6_leads 30 = .ok (.aload_n 0, 1) := by decide +kernel
theorem dX6_leads_31 : decode cX6_leads 31 = .ok (.getfield 13, 3) := by decide +kernel
theorem dX6_leads_34 : decode cX6_leads 34 = .ok (.iconst 1, 1) := by decide +kernel
theorem dX6_leads_35 : decode cX6_leads 35 = .ok (.dup2, 1) := by decide +kernel
theorem dX6_leads_36 : decode cX6_leads 36 = .ok (.iaload, 1) := by decide +kernel
theorem dX6_leads_37 : decode cX6_leads 37 = .ok (.iconst 1, 1) := by decide +kernel
theorem dX6_leads_38 : decode cX6_leads 38 = .ok (.iadd, 1) := by decide +kernel
theorem dX6_leads_39 : decode cX6_leads 39 = .ok (.iastore, 1) := by decide +kernel
theorem dX6_leads_40 : decode cX6_leads 40 = .ok (.return_, 1) := by decide +kernel
theorem dX6_hears_0 : decode cX6_hears 0 = .ok (.aload_n 0, 1) := by decide +kernel
theorem dX6_hears_1 : decode cX6_hears 1 = .ok (.getfield 13, 3) := by decide +kernel
theorem dX6_hears_4 : decode cX6_hears 4 = .ok (.iconst 2, 1) := by decide +kernel
theorem dX6_hears_5 : decode cX6_hears 5 = .ok (.iload_n 1, 1) := by decide +kernel
theorem dX6_hears_6 : decode cX6_hears 6 = .ok (.iastore, 1) := by decide +kernel
theorem dX6_hears_7 : decode cX6_hears 7 = .ok (.aload_n 0, 1) := by decide +kernel
theorem dX6_hears_8 : decode cX6_hears 8 = .ok (.getfield 13, 3) := by decide +kernel
theorem dX6_hears_11 : decode cX6_hears 11 = .ok (.sipush 166, 3) := by decide +kernel
theorem dX6_hears_14 : decode cX6_hears 14 = .ok (.aload_n 0, 1) := by decide +kernel
theorem dX6_hears_15 : decode cX6_hears 15 = .ok (.getfield 13, 3) := by decide +kernel
theorem dX6_hears_18 : decode cX6_hears 18 = .ok (.bipush 24, 2) := by decide +kernel
theorem dX6_hears_20 : decode cX6_hears 20 = .ok (.iload_n 1, 1) := by decide +kernel
theorem dX6_hears_21 : decode cX6_hears 21 = .ok (.iadd, 1) := by decide +kernel
theorem dX6_hears_22 : decode cX6_hears 22 = .ok (.iaload, 1) := by decide +kernel
theorem dX6_hears_23 : decode cX6_hears 23 = .ok (.iadd, 1) := by decide +kernel
theorem dX6_hears_24 : decode cX6_hears 24 = .ok (.dup2, 1) := by decide +kernel
theorem dX6_hears_25 : decode cX6_hears 25 = .ok (.iaload, 1) := by decide +kernel
theorem dX6_hears_26 : decode cX6_hears 26 = .ok (.iconst 1, 1) := by decide +kernel
theorem dX6_hears_27 : decode cX6_hears 27 = .ok (.iadd, 1) := by decide +kernel
theorem dX6_hears_28 : decode cX6_hears 28 = .ok (.iastore, 1) := by decide +kernel
theorem dX6_hears_29 : decode cX6_hears 29 = .ok (.return_, 1) := by decide +kernel
theorem dX6_lays_0 : decode cX6_lays 0 = .ok (.iconst 0, 1) := by decide +kernel
theorem dX6_lays_1 : decode cX6_lays 1 = .ok (.istore_n 2, 1) := by decide +kernel
theorem dX6_lays_2 : decode cX6_lays 2 = .ok (.iload_n 2, 1) := by decide +kernel
theorem dX6_lays_3 : decode cX6_lays 3 = .ok (.bipush 10, 2) := by decide +kernel
theorem dX6_lays_5 : decode cX6_lays 5 = .ok (.if_icmp .ge 20, 3) := by decide +kernel
theorem dX6_lays_8 : decode cX6_lays 8 = .ok (.aload_n 0, 1) := by decide +kernel
theorem dX6_lays_9 : decode cX6_lays 9 = .ok (.getfield 13, 3) := by decide +kernel
theorem dX6_lays_12 : decode cX6_lays 12 = .ok (.sipush 166, 3) := by decide +kernel
theorem dX6_lays_15 : decode cX6_lays 15 = .ok (.iload_n 2, 1) := by decide +kernel
theorem dX6_lays_16 : decode cX6_lays 16 = .ok (.iadd, 1) := by decide +kernel
theorem dX6_lays_17 : decode cX6_lays 17 = .ok (.iconst 0, 1) := by decide +kernel
theorem dX6_lays_18 : decode cX6_lays 18 = .ok (.iastore, 1) := by decide +kernel
theorem dX6_lays_19 : decode cX6_lays 19 = .ok (.iinc 2 1, 3) := by decide +kernel
theorem dX6_lays_22 : decode cX6_lays 22 = .ok (.goto (-20), 3) := by decide +kernel
theorem dX6_lays_25 : decode cX6_lays 25 = .ok (.aload_n 0, 1) := by decide +kernel
theorem dX6_lays_26 : decode cX6_lays 26 = .ok (.getfield 13, 3) := by decide +kernel
theorem dX6_lays_29 : decode cX6_lays 29 = .ok (.iconst 3, 1) := by decide +kernel
theorem dX6_lays_30 : decode cX6_lays 30 = .ok (.iconst 0, 1) := by decide +kernel
theorem dX6_lays_31 : decode cX6_lays 31 = .ok (.iastore, 1) := by decide +kernel
theorem dX6_lays_32 : decode cX6_lays 32 = .ok (.aload_n 0, 1) := by decide +kernel
theorem dX6_lays_33 : decode cX6_lays 33 = .ok (.iload_n 1, 1) := by decide +kernel
theorem dX6_lays_34 : decode cX6_lays 34 = .ok (.invokevirtual 72, 3) := by decide +kernel
theorem dX6_lays_37 : decode cX6_lays 37 = .ok (.return_, 1) := by decide +kernel
theorem dX6_between_0 : decode cX6_between 0 = .ok (.iconst 0, 1) := by decide +kernel
theorem dX6_between_1 : decode cX6_between 1 = .ok (.istore_n 3, 1) := by decide +kernel
theorem dX6_between_2 : decode cX6_between 2 = .ok (.iload_n 3, 1) := by decide +kernel
theorem dX6_between_3 : decode cX6_between 3 = .ok (.aload_n 0, 1) := by decide +kernel
theorem dX6_between_4 : decode cX6_between 4 = .ok (.getfield 13, 3) := by decide +kernel
theorem dX6_between_7 : decode cX6_between 7 = .ok (.iconst 1, 1) := by decide +kernel
theorem dX6_between_8 : decode cX6_between 8 = .ok (.iaload, 1) := by decide +kernel
theorem dX6_between_9 : decode cX6_between 9 = .ok (.if_icmp .ge 37, 3) := by decide +kernel
theorem dX6_between_12 : decode cX6_between 12 = .ok (.aload_n 0, 1) := by decide +kernel
theorem dX6_between_13 : decode cX6_between 13 = .ok (.getfield 13, 3) := by decide +kernel
theorem dX6_between_16 : decode cX6_between 16 = .ok (.bipush 44, 2) := by decide +kernel
theorem dX6_between_18 : decode cX6_between 18 = .ok (.iload_n 3, 1) := by decide +kernel
theorem dX6_between_19 : decode cX6_between 19 = .ok (.iadd, 1) := by decide +kernel
theorem dX6_between_20 : decode cX6_between 20 = .ok (.iaload, 1) := by decide +kernel
theorem dX6_between_21 : decode cX6_between 21 = .ok (.iload_n 1, 1) := by decide +kernel
theorem dX6_between_22 : decode cX6_between 22 = .ok (.if_icmp .ne 18, 3) := by decide +kernel
theorem dX6_between_25 : decode cX6_between 25 = .ok (.aload_n 0, 1) := by decide +kernel
theorem dX6_between_26 : decode cX6_between 26 = .ok (.getfield 13, 3) := by decide +kernel
theorem dX6_between_29 : decode cX6_between 29 = .ok (.bipush 105, 2) := by decide +kernel
theorem dX6_between_31 : decode cX6_between 31 = .ok (.iload_n 3, 1) := by decide +kernel
theorem dX6_between_32 : decode cX6_between 32 = .ok (.iadd, 1) := by decide +kernel
theorem dX6_between_33 : decode cX6_between 33 = .ok (.iaload, 1) := by decide +kernel
theorem dX6_between_34 : decode cX6_between 34 = .ok (.iload_n 2, 1) := by decide +kernel
theorem dX6_between_35 : decode cX6_between 35 = .ok (.if_icmp .ne 5, 3) := by decide +kernel
theorem dX6_between_38 : decode cX6_between 38 = .ok (.iload_n 3, 1) := by decide +kernel
theorem dX6_between_39 : decode cX6_between 39 = .ok (.ireturn, 1) := by decide +kernel
theorem dX6_between_40 : decode cX6_between 40 = .ok (.iinc 3 1, 3) := by decide +kernel
theorem dX6_between_43 : decode cX6_between 43 = .ok (.goto (-41), 3) := by decide +kernel
theorem dX6_between_46 : decode cX6_between 46 = .ok (.iconst (-1), 1) := by decide +kernel
theorem dX6_between_47 : decode cX6_between 47 = .ok (.ireturn, 1) := by decide +kernel
theorem dX6_weighs_0 : decode cX6_weighs 0 = .ok (.iconst 1, 1) := by decide +kernel
theorem dX6_weighs_1 : decode cX6_weighs 1 = .ok (.istore_n 1, 1) := by decide +kernel
theorem dX6_weighs_2 : decode cX6_weighs 2 = .ok (.iconst 1, 1) := by decide +kernel
theorem dX6_weighs_3 : decode cX6_weighs 3 = .ok (.istore_n 2, 1) := by decide +kernel
theorem dX6_weighs_4 : decode cX6_weighs 4 = .ok (.iload_n 2, 1) := by decide +kernel
theorem dX6_weighs_5 : decode cX6_weighs 5 = .ok (.bipush 10, 2) := by decide +kernel
theorem dX6_weighs_7 : decode cX6_weighs 7 = .ok (.if_icmp .ge 64, 3) := by decide +kernel
theorem dX6_weighs_10 : decode cX6_weighs 10 = .ok (.aload_n 0, 1) := by decide +kernel
theorem dX6_weighs_11 : decode cX6_weighs 11 = .ok (.getfield 39, 3) := by decide +kernel
theorem dX6_weighs_14 : decode cX6_weighs 14 = .ok (.iload_n 2, 1) := by decide +kernel
theorem dX6_weighs_15 : decode cX6_weighs 15 = .ok (.iload_n 1, 1) := by decide +kernel
theorem dX6_weighs_16 : decode cX6_weighs 16 = .ok (.iastore, 1) := by decide +kernel
theorem dX6_weighs_17 : decode cX6_weighs 17 = .ok (.iconst 1, 1) := by decide +kernel
theorem dX6_weighs_18 : decode cX6_weighs 18 = .ok (.istore_n 3, 1) := by decide +kernel
theorem dX6_weighs_19 : decode cX6_weighs 19 = .ok (.iconst 0, 1) := by decide +kernel
theorem dX6_weighs_20 : decode cX6_weighs 20 = .ok (.istore 4, 2) := by decide +kernel
theorem dX6_weighs_22 : decode cX6_weighs 22 = .ok (.iload 4, 2) := by decide +kernel
theorem dX6_weighs_24 : decode cX6_weighs 24 = .ok (.aload_n 0, 1) := by decide +kernel
theorem dX6_weighs_25 : decode cX6_weighs 25 = .ok (.getfield 13, 3) := by decide +kernel
theorem dX6_weighs_28 : decode cX6_weighs 28 = .ok (.iconst 0, 1) := by decide +kernel
theorem dX6_weighs_29 : decode cX6_weighs 29 = .ok (.iaload, 1) := by decide +kernel
theorem dX6_weighs_30 : decode cX6_weighs 30 = .ok (.if_icmp .ge 31, 3) := by decide +kernel
theorem dX6_weighs_33 : decode cX6_weighs 33 = .ok (.iload_n 3, 1) := by decide +kernel
theorem dX6_weighs_34 : decode cX6_weighs 34 = .ok (.aload_n 0, 1) := by decide +kernel
theorem dX6_weighs_35 : decode cX6_weighs 35 = .ok (.getfield 13, 3) := by decide +kernel
theorem dX6_weighs_38 : decode cX6_weighs 38 = .ok (.bipush 24, 2) := by decide +kernel
theorem dX6_weighs_40 : decode cX6_weighs 40 = .ok (.iload 4, 2) := by decide +kernel
theorem dX6_weighs_42 : decode cX6_weighs 42 = .ok (.iadd, 1) := by decide +kernel
theorem dX6_weighs_43 : decode cX6_weighs 43 = .ok (.iaload, 1) := by decide +kernel
theorem dX6_weighs_44 : decode cX6_weighs 44 = .ok (.iload_n 2, 1) := by decide +kernel
theorem dX6_weighs_45 : decode cX6_weighs 45 = .ok (.if_icmp .ne 7, 3) := by decide +kernel
theorem dX6_weighs_48 : decode cX6_weighs 48 = .ok (.iconst 1, 1) := by decide +kernel
theorem dX6_weighs_49 : decode cX6_weighs 49 = .ok (.goto 4, 3) := by decide +kernel
theorem dX6_weighs_52 : decode cX6_weighs 52 = .ok (.iconst 0, 1) := by decide +kernel
theorem dX6_weighs_53 : decode cX6_weighs 53 = .ok (.iadd, 1) := by decide +kernel
theorem dX6_weighs_54 : decode cX6_weighs 54 = .ok (.istore_n 3, 1) := by decide +kernel
theorem dX6_weighs_55 : decode cX6_weighs 55 = .ok (.iinc 4 1, 3) := by decide +kernel
theorem dX6_weighs_58 : decode cX6_weighs 58 = .ok (.goto (-36), 3) := by decide +kernel
theorem dX6_weighs_61 : decode cX6_weighs 61 = .ok (.iload_n 1, 1) := by decide +kernel
theorem dX6_weighs_62 : decode cX6_weighs 62 = .ok (.iload_n 3, 1) := by decide +kernel
theorem dX6_weighs_63 : decode cX6_weighs 63 = .ok (.imul, 1) := by decide +kernel
theorem dX6_weighs_64 : decode cX6_weighs 64 = .ok (.istore_n 1, 1) := by decide +kernel
theorem dX6_weighs_65 : decode cX6_weighs 65 = .ok (.iinc 2 2, 3) := by decide +kernel
theorem dX6_weighs_68 : decode cX6_weighs 68 = .ok (.goto (-64), 3) := by decide +kernel
theorem dX6_weighs_71 : decode cX6_weighs 71 = .ok (.aload_n 0, 1) := by decide +kernel
theorem dX6_weighs_72 : decode cX6_weighs 72 = .ok (.iload_n 1, 1) := by decide +kernel
theorem dX6_weighs_73 : decode cX6_weighs 73 = .ok (.putfield 75, 3) := by decide +kernel
theorem dX6_weighs_76 : decode cX6_weighs 76 = .ok (.return_, 1) := by decide +kernel
theorem dX6_over_0 : decode cX6_over 0 = .ok (.iload_n 2, 1) := by decide +kernel
theorem dX6_over_1 : decode cX6_over 1 = .ok (.aload_n 0, 1) := by decide +kernel
theorem dX6_over_2 : decode cX6_over 2 = .ok (.getfield 75, 3) := by decide +kernel
theorem dX6_over_5 : decode cX6_over 5 = .ok (.if_icmp .ne 8, 3) := by decide +kernel
theorem dX6_over_8 : decode cX6_over 8 = .ok (.aload_n 0, 1) := by decide +kernel
theorem dX6_over_9 : decode cX6_over 9 = .ok (.getfield 75, 3) := by decide +kernel
theorem dX6_over_12 : decode cX6_over 12 = .ok (.ireturn, 1) := by decide +kernel
theorem dX6_over_13 : decode cX6_over 13 = .ok (.iload_n 1, 1) := by decide +kernel
theorem dX6_over_14 : decode cX6_over 14 = .ok (.iconst 2, 1) := by decide +kernel
theorem dX6_over_15 : decode cX6_over 15 = .ok (.irem, 1) := by decide +kernel
theorem dX6_over_16 : decode cX6_over 16 = .ok (.ifCond .ne 28, 3) := by decide +kernel
theorem dX6_over_19 : decode cX6_over 19 = .ok (.iload_n 1, 1) := by decide +kernel
theorem dX6_over_20 : decode cX6_over 20 = .ok (.iconst 1, 1) := by decide +kernel
theorem dX6_over_21 : decode cX6_over 21 = .ok (.iadd, 1) := by decide +kernel
theorem dX6_over_22 : decode cX6_over 22 = .ok (.bipush 9, 2) := by decide +kernel
theorem dX6_over_24 : decode cX6_over 24 = .ok (.if_icmp .le 7, 3) := by decide +kernel
theorem dX6_over_27 : decode cX6_over 27 = .ok (.iconst 0, 1) := by decide +kernel
theorem dX6_over_28 : decode cX6_over 28 = .ok (.goto 15, 3) := by decide +kernel
theorem dX6_over_31 : decode cX6_over 31 = .ok (.iload_n 2, 1) := by decide +kernel
theorem dX6_over_32 : decode cX6_over 32 = .ok (.iload_n 2, 1) := by decide +kernel
theorem dX6_over_33 : decode cX6_over 33 = .ok (.aload_n 0, 1) := by decide +kernel
theorem dX6_over_34 : decode cX6_over 34 = .ok (.getfield 39, 3) := by decide +kernel
theorem dX6_over_37 : decode cX6_over 37 = .ok (.iload_n 1, 1) := by decide +kernel
theorem dX6_over_38 : decode cX6_over 38 = .ok (.iconst 1, 1) := by decide +kernel
theorem dX6_over_39 : decode cX6_over 39 = .ok (.iadd, 1) := by decide +kernel
theorem dX6_over_40 : decode cX6_over 40 = .ok (.iaload, 1) := by decide +kernel
theorem dX6_over_41 : decode cX6_over 41 = .ok (.irem, 1) := by decide +kernel
theorem dX6_over_42 : decode cX6_over 42 = .ok (.isub, 1) := by decide +kernel
theorem dX6_over_43 : decode cX6_over 43 = .ok (.ireturn, 1) := by decide +kernel
theorem dX6_over_44 : decode cX6_over 44 = .ok (.iload_n 2, 1) := by decide +kernel
theorem dX6_over_45 : decode cX6_over 45 = .ok (.iload_n 2, 1) := by decide +kernel
theorem dX6_over_46 : decode cX6_over 46 = .ok (.aload_n 0, 1) := by decide +kernel
theorem dX6_over_47 : decode cX6_over 47 = .ok (.getfield 39, 3) := by decide +kernel
theorem dX6_over_50 : decode cX6_over 50 = .ok (.iload_n 1, 1) := by decide +kernel
theorem dX6_over_51 : decode cX6_over 51 = .ok (.iaload, 1) := by decide +kernel
theorem dX6_over_52 : decode cX6_over 52 = .ok (.irem, 1) := by decide +kernel
theorem dX6_over_53 : decode cX6_over 53 = .ok (.isub, 1) := by decide +kernel
theorem dX6_over_54 : decode cX6_over 54 = .ok (.aload_n 0, 1) := by decide +kernel
theorem dX6_over_55 : decode cX6_over 55 = .ok (.getfield 39, 3) := by decide +kernel
theorem dX6_over_58 : decode cX6_over 58 = .ok (.iload_n 1, 1) := by decide +kernel
theorem dX6_over_59 : decode cX6_over 59 = .ok (.iaload, 1) := by decide +kernel
theorem dX6_over_60 : decode cX6_over 60 = .ok (.iadd, 1) := by decide +kernel
theorem dX6_over_61 : decode cX6_over 61 = .ok (.istore_n 3, 1) := by decide +kernel
theorem dX6_over_62 : decode cX6_over 62 = .ok (.iload_n 3, 1) := by decide +kernel
theorem dX6_over_63 : decode cX6_over 63 = .ok (.aload_n 0, 1) := by decide +kernel
theorem dX6_over_64 : decode cX6_over 64 = .ok (.getfield 75, 3) := by decide +kernel
theorem dX6_over_67 : decode cX6_over 67 = .ok (.if_icmp .le 10, 3) := by decide +kernel
theorem dX6_over_70 : decode cX6_over 70 = .ok (.aload_n 0, 1) := by decide +kernel
theorem dX6_over_71 : decode cX6_over 71 = .ok (.getfield 75, 3) := by decide +kernel
theorem dX6_over_74 : decode cX6_over 74 = .ok (.goto 4, 3) := by decide +kernel
theorem dX6_over_77 : decode cX6_over 77 = .ok (.iload_n 3, 1) := by decide +kernel
theorem dX6_over_78 : decode cX6_over 78 = .ok (.ireturn, 1) := by decide +kernel
theorem dX6_lifted_0 : decode cX6_lifted 0 = .ok (.aload_n 0, 1) := by decide +kernel
theorem dX6_lifted_1 : decode cX6_lifted 1 = .ok (.getfield 13, 3) := by decide +kernel
theorem dX6_lifted_4 : decode cX6_lifted 4 = .ok (.iconst 4, 1) := by decide +kernel
theorem dX6_lifted_5 : decode cX6_lifted 5 = .ok (.iload_n 1, 1) := by decide +kernel
theorem dX6_lifted_6 : decode cX6_lifted 6 = .ok (.iadd, 1) := by decide +kernel
theorem dX6_lifted_7 : decode cX6_lifted 7 = .ok (.iaload, 1) := by decide +kernel
theorem dX6_lifted_8 : decode cX6_lifted 8 = .ok (.istore_n 2, 1) := by decide +kernel
theorem dX6_lifted_9 : decode cX6_lifted 9 = .ok (.iconst (-1), 1) := by decide +kernel
theorem dX6_lifted_10 : decode cX6_lifted 10 = .ok (.istore_n 3, 1) := by decide +kernel
theorem dX6_lifted_11 : decode cX6_lifted 11 = .ok (.iconst 0, 1) := by decide +kernel
theorem dX6_lifted_12 : decode cX6_lifted 12 = .ok (.istore 4, 2) := by decide +kernel
theorem dX6_lifted_14 : decode cX6_lifted 14 = .ok (.iload 4, 2) := by decide +kernel
theorem dX6_lifted_16 : decode cX6_lifted 16 = .ok (.aload_n 0, 1) := by decide +kernel
theorem dX6_lifted_17 : decode cX6_lifted 17 = .ok (.getfield 13, 3) := by decide +kernel
theorem dX6_lifted_20 : decode cX6_lifted 20 = .ok (.iconst 1, 1) := by decide +kernel
theorem dX6_lifted_21 : decode cX6_lifted 21 = .ok (.iaload, 1) := by decide +kernel
theorem dX6_lifted_22 : decode cX6_lifted 22 = .ok (.if_icmp .ge 91, 3) := by decide +kernel
theorem dX6_lifted_25 : decode cX6_lifted 25 = .ok (.aload_n 0, 1) := by decide +kernel
theorem dX6_lifted_26 : decode cX6_lifted 26 = .ok (.getfield 36, 3) := by decide +kernel
theorem dX6_lifted_29 : decode cX6_lifted 29 = .ok (.iload 4, 2) := by decide +kernel
theorem dX6_lifted_31 : decode cX6_lifted 31 = .ok (.iaload, 1) := by decide +kernel
theorem dX6_lifted_32 : decode cX6_lifted 32 = .ok (.iconst 1, 1) := by decide +kernel
theorem dX6_lifted_33 : decode cX6_lifted 33 = .ok (.if_icmp .ne 74, 3) := by decide +kernel
theorem dX6_lifted_36 : decode cX6_lifted 36 = .ok (.aload_n 0, 1) := by decide +kernel
theorem dX6_lifted_37 : decode cX6_lifted 37 = .ok (.getfield 13, 3) := by decide +kernel
theorem dX6_lifted_40 : decode cX6_lifted 40 = .ok (.bipush 44, 2) := by decide +kernel
theorem dX6_lifted_42 : decode cX6_lifted 42 = .ok (.iload 4, 2) := by decide +kernel
theorem dX6_lifted_44 : decode cX6_lifted 44 = .ok (.iadd, 1) := by decide +kernel
theorem dX6_lifted_45 : decode cX6_lifted 45 = .ok (.iaload, 1) := by decide +kernel
theorem dX6_lifted_46 : decode cX6_lifted 46 = .ok (.iload_n 1, 1) := by decide +kernel
theorem dX6_lifted_47 : decode cX6_lifted 47 = .ok (.if_icmp .ne 60, 3) := by decide +kernel
theorem dX6_lifted_50 : decode cX6_lifted 50 = .ok (.aload_n 0, 1) := by decide +kernel
theorem dX6_lifted_51 : decode cX6_lifted 51 = .ok (.aload_n 0, 1) := by decide +kernel
theorem dX6_lifted_52 : decode cX6_lifted 52 = .ok (.getfield 13, 3) := by decide +kernel
theorem dX6_lifted_55 : decode cX6_lifted 55 = .ok (.bipush 24, 2) := by decide +kernel
theorem dX6_lifted_57 : decode cX6_lifted 57 = .ok (.iload_n 1, 1) := by decide +kernel
theorem dX6_lifted_58 : decode cX6_lifted 58 = .ok (.iadd, 1) := by decide +kernel
theorem dX6_lifted_59 : decode cX6_lifted 59 = .ok (.iaload, 1) := by decide +kernel
theorem dX6_lifted_60 : decode cX6_lifted 60 = .ok (.aload_n 0, 1) := by decide +kernel
theorem dX6_lifted_61 : decode cX6_lifted 61 = .ok (.getfield 42, 3) := by decide +kernel
theorem dX6_lifted_64 : decode cX6_lifted 64 = .ok (.aload_n 0, 1) := by decide +kernel
theorem dX6_lifted_65 : decode cX6_lifted 65 = .ok (.getfield 13, 3) := by decide +kernel
theorem dX6_lifted_68 : decode cX6_lifted 68 = .ok (.bipush 105, 2) := by decide +kernel
theorem dX6_lifted_70 : decode cX6_lifted 70 = .ok (.iload 4, 2) := by decide +kernel
theorem dX6_lifted_72 : decode cX6_lifted 72 = .ok (.iadd, 1) := by decide +kernel
theorem dX6_lifted_73 : decode cX6_lifted 73 = .ok (.iaload, 1) := by decide +kernel
theorem dX6_lifted_74 : decode cX6_lifted 74 = .ok (.iaload, 1) := by decide +kernel
theorem dX6_lifted_75 : decode cX6_lifted 75 = .ok (.invokevirtual 78, 3) := by decide +kernel
theorem dX6_lifted_78 : decode cX6_lifted 78 = .ok (.istore 5, 2) := by decide +kernel
theorem dX6_lifted_80 : decode cX6_lifted 80 = .ok (.iload_n 3, 1) := by decide +kernel
theorem dX6_lifted_81 : decode cX6_lifted 81 = .ok (.iconst (-1), 1) := by decide +kernel
theorem dX6_lifted_82 : decode cX6_lifted 82 = .ok (.if_icmp .eq 22, 3) := by decide +kernel
theorem dX6_lifted_85 : decode cX6_lifted 85 = .ok (.iload_n 2, 1) := by decide +kernel
theorem dX6_lifted_86 : decode cX6_lifted 86 = .ok (.ifCond .ne 12, 3) := by decide +kernel
theorem dX6_lifted_89 : decode cX6_lifted 89 = .ok (.iload 5, 2) := by decide +kernel
theorem dX6_lifted_91 : decode cX6_lifted 91 = .ok (.iload_n 3, 1) := by decide +kernel
theorem dX6_lifted_92 : decode cX6_lifted 92 = .ok (.if_icmp .ge 15, 3) := by decide +kernel
theorem dX6_lifted_95 : decode cX6_lifted 95 = .ok (.goto 9, 3) := by decide +kernel
theorem dX6_lifted_98 : decode cX6_lifted 98 = .ok (.iload 5, 2) := by decide +kernel
theorem dX6_lifted_100 : decode cX6_lifted 100 = .ok (.iload_n 3, 1) := by decide +kernel
theorem dX6_lifted_101 : decode cX6_lifted 101 = .ok (.if_icmp .le 6, 3) := by decide +kernel
theorem dX6_lifted_104 : decode cX6_lifted 104 = .ok (.iload 5, 2) := by decide +kernel
theorem dX6_lifted_106 : decode cX6_lifted 106 = .ok (.istore_n 3, 1) := by decide +kernel
theorem dX6_lifted_107 : decode cX6_lifted 107 = .ok (.iinc 4 1, 3) := by decide +kernel
theorem dX6_lifted_110 : decode cX6_lifted 110 = .ok (.goto (-96), 3) := by decide +kernel
theorem dX6_lifted_113 : decode cX6_lifted 113 = .ok (.iload_n 3, 1) := by decide +kernel
theorem dX6_lifted_114 : decode cX6_lifted 114 = .ok (.iconst (-1), 1) := by decide +kernel
theorem dX6_lifted_115 : decode cX6_lifted 115 = .ok (.if_icmp .eq 7, 3) := by decide +kernel
theorem dX6_lifted_118 : decode cX6_lifted 118 = .ok (.iload_n 3, 1) := by decide +kernel
theorem dX6_lifted_119 : decode cX6_lifted 119 = .ok (.goto 15, 3) := by decide +kernel
theorem dX6_lifted_122 : decode cX6_lifted 122 = .ok (.iload_n 2, 1) := by decide +kernel
theorem dX6_lifted_123 : decode cX6_lifted 123 = .ok (.ifCond .ne 10, 3) := by decide +kernel
theorem dX6_lifted_126 : decode cX6_lifted 126 = .ok (.aload_n 0, 1) := by decide +kernel
theorem dX6_lifted_127 : decode cX6_lifted 127 = .ok (.getfield 75, 3) := by decide +kernel
theorem dX6_lifted_130 : decode cX6_lifted 130 = .ok (.goto 4, 3) := by decide +kernel
theorem dX6_lifted_133 : decode cX6_lifted 133 = .ok (.iconst 0, 1) := by decide +kernel
theorem dX6_lifted_134 : decode cX6_lifted 134 = .ok (.ireturn, 1) := by decide +kernel
theorem dX6_solved_0 : decode cX6_solved 0 = .ok (.aload_n 0, 1) := by decide +kernel
theorem dX6_solved_1 : decode cX6_solved 1 = .ok (.invokevirtual 82, 3) := by decide +kernel
theorem dX6_solved_4 : decode cX6_solved 4 = .ok (.iconst 0, 1) := by decide +kernel
theorem dX6_solved_5 : decode cX6_solved 5 = .ok (.istore_n 1, 1) := by decide +kernel
theorem dX6_solved_6 : decode cX6_solved 6 = .ok (.iload_n 1, 1) := by decide +kernel
theorem dX6_solved_7 : decode cX6_solved 7 = .ok (.aload_n 0, 1) := by decide +kernel
theorem dX6_solved_8 : decode cX6_solved 8 = .ok (.getfield 13, 3) := by decide +kernel
theorem dX6_solved_11 : decode cX6_solved 11 = .ok (.iconst 0, 1) := by decide +kernel
theorem dX6_solved_12 : decode cX6_solved 12 = .ok (.iaload, 1) := by decide +kernel
theorem dX6_solved_13 : decode cX6_solved 13 = .ok (.if_icmp .ge 16, 3) := by decide +kernel
theorem dX6_solved_16 : decode cX6_solved 16 = .ok (.aload_n 0, 1) := by decide +kernel
theorem dX6_solved_17 : decode cX6_solved 17 = .ok (.getfield 42, 3) := by decide +kernel
theorem dX6_solved_20 : decode cX6_solved 20 = .ok (.iload_n 1, 1) := by decide +kernel
theorem dX6_solved_21 : decode cX6_solved 21 = .ok (.iconst 0, 1) := by decide +kernel
theorem dX6_solved_22 : decode cX6_solved 22 = .ok (.iastore, 1) := by decide +kernel
theorem dX6_solved_23 : decode cX6_solved 23 = .ok (.iinc 1 1, 3) := by decide +kernel
theorem dX6_solved_26 : decode cX6_solved 26 = .ok (.goto (-20), 3) := by decide +kernel
theorem dX6_solved_29 : decode cX6_solved 29 = .ok (.iconst 1, 1) := by decide +kernel
theorem dX6_solved_30 : decode cX6_solved 30 = .ok (.istore_n 1, 1) := by decide +kernel
theorem dX6_solved_31 : decode cX6_solved 31 = .ok (.iload_n 1, 1) := by decide +kernel
theorem dX6_solved_32 : decode cX6_solved 32 = .ok (.ifCond .eq 51, 3) := by decide +kernel
theorem dX6_solved_35 : decode cX6_solved 35 = .ok (.iconst 0, 1) := by decide +kernel
theorem dX6_solved_36 : decode cX6_solved 36 = .ok (.istore_n 1, 1) := by decide +kernel
theorem dX6_solved_37 : decode cX6_solved 37 = .ok (.iconst 0, 1) := by decide +kernel
theorem dX6_solved_38 : decode cX6_solved 38 = .ok (.istore_n 2, 1) := by decide +kernel
theorem dX6_solved_39 : decode cX6_solved 39 = .ok (.iload_n 2, 1) := by decide +kernel
theorem dX6_solved_40 : decode cX6_solved 40 = .ok (.aload_n 0, 1) := by decide +kernel
theorem dX6_solved_41 : decode cX6_solved 41 = .ok (.getfield 13, 3) := by decide +kernel
theorem dX6_solved_44 : decode cX6_solved 44 = .ok (.iconst 0, 1) := by decide +kernel
theorem dX6_solved_45 : decode cX6_solved 45 = .ok (.iaload, 1) := by decide +kernel
theorem dX6_solved_46 : decode cX6_solved 46 = .ok (.if_icmp .ge 34, 3) := by decide +kernel
theorem dX6_solved_49 : decode cX6_solved 49 = .ok (.aload_n 0, 1) := by decide +kernel
theorem dX6_solved_50 : decode cX6_solved 50 = .ok (.iload_n 2, 1) := by decide +kernel
theorem dX6_solved_51 : decode cX6_solved 51 = .ok (.invokevirtual 85, 3) := by decide +kernel
theorem dX6_solved_54 : decode cX6_solved 54 = .ok (.istore_n 3, 1) := by decide +kernel
theorem dX6_solved_55 : decode cX6_solved 55 = .ok (.iload_n 3, 1) := by decide +kernel
theorem dX6_solved_56 : decode cX6_solved 56 = .ok (.aload_n 0, 1) := by decide +kernel
theorem dX6_solved_57 : decode cX6_solved 57 = .ok (.getfield 42, 3) := by decide +kernel
theorem dX6_solved_60 : decode cX6_solved 60 = .ok (.iload_n 2, 1) := by decide +kernel
theorem dX6_solved_61 : decode cX6_solved 61 = .ok (.iaload, 1) := by decide +kernel
theorem dX6_solved_62 : decode cX6_solved 62 = .ok (.if_icmp .le 12, 3) := by decide +kernel
theorem dX6_solved_65 : decode cX6_solved 65 = .ok (.aload_n 0, 1) := by decide +kernel
theorem dX6_solved_66 : decode cX6_solved 66 = .ok (.getfield 42, 3) := by decide +kernel
theorem dX6_solved_69 : decode cX6_solved 69 = .ok (.iload_n 2, 1) := by decide +kernel
theorem dX6_solved_70 : decode cX6_solved 70 = .ok (.iload_n 3, 1) := by decide +kernel
theorem dX6_solved_71 : decode cX6_solved 71 = .ok (.iastore, 1) := by decide +kernel
theorem dX6_solved_72 : decode cX6_solved 72 = .ok (.iconst 1, 1) := by decide +kernel
theorem dX6_solved_73 : decode cX6_solved 73 = .ok (.istore_n 1, 1) := by decide +kernel
theorem dX6_solved_74 : decode cX6_solved 74 = .ok (.iinc 2 1, 3) := by decide +kernel
theorem dX6_solved_77 : decode cX6_solved 77 = .ok (.goto (-38), 3) := by decide +kernel
theorem dX6_solved_80 : decode cX6_solved 80 = .ok (.goto (-49), 3) := by decide +kernel
theorem dX6_solved_83 : decode cX6_solved 83 = .ok (.iconst 0, 1) := by decide +kernel
theorem dX6_solved_84 : decode cX6_solved 84 = .ok (.istore_n 2, 1) := by decide +kernel
theorem dX6_solved_85 : decode cX6_solved 85 = .ok (.iconst 0, 1) := by decide +kernel
theorem dX6_solved_86 : decode cX6_solved 86 = .ok (.istore_n 3, 1) := by decide +kernel
theorem dX6_solved_87 : decode cX6_solved 87 = .ok (.iload_n 3, 1) := by decide +kernel
theorem dX6_solved_88 : decode cX6_solved 88 = .ok (.aload_n 0, 1) := by decide +kernel
theorem dX6_solved_89 : decode cX6_solved 89 = .ok (.getfield 13, 3) := by decide +kernel
theorem dX6_solved_92 : decode cX6_solved 92 = .ok (.iconst 0, 1) := by decide +kernel
theorem dX6_solved_93 : decode cX6_solved 93 = .ok (.iaload, 1) := by decide +kernel
theorem dX6_solved_94 : decode cX6_solved 94 = .ok (.if_icmp .ge 32, 3) := by decide +kernel
theorem dX6_solved_97 : decode cX6_solved 97 = .ok (.iload_n 2, 1) := by decide +kernel
theorem dX6_solved_98 : decode cX6_solved 98 = .ok (.aload_n 0, 1) := by decide +kernel
theorem dX6_solved_99 : decode cX6_solved 99 = .ok (.getfield 42, 3) := by decide +kernel
theorem dX6_solved_102 : decode cX6_solved 102 = .ok (.iload_n 3, 1) := by decide +kernel
theorem dX6_solved_103 : decode cX6_solved 103 = .ok (.iaload, 1) := by decide +kernel
theorem dX6_solved_104 : decode cX6_solved 104 = .ok (.aload_n 0, 1) := by decide +kernel
theorem dX6_solved_105 : decode cX6_solved 105 = .ok (.getfield 75, 3) := by decide +kernel
theorem dX6_solved_108 : decode cX6_solved 108 = .ok (.if_icmp .ge 9, 3) := by decide +kernel
theorem dX6_solved_111 : decode cX6_solved 111 = .ok (.iconst 1, 1) := by decide +kernel
theorem dX6_solved_112 : decode cX6_solved 112 = .ok (.iload_n 3, 1) := by decide +kernel
theorem dX6_solved_113 : decode cX6_solved 113 = .ok (.ishl, 1) := by decide +kernel
theorem dX6_solved_114 : decode cX6_solved 114 = .ok (.goto 4, 3) := by decide +kernel
theorem dX6_solved_117 : decode cX6_solved 117 = .ok (.iconst 0, 1) := by decide +kernel
theorem dX6_solved_118 : decode cX6_solved 118 = .ok (.ior, 1) := by decide +kernel
theorem dX6_solved_119 : decode cX6_solved 119 = .ok (.istore_n 2, 1) := by decide +kernel
theorem dX6_solved_120 : decode cX6_solved 120 = .ok (.iinc 3 1, 3) := by decide +kernel
theorem dX6_solved_123 : decode cX6_solved 123 = .ok (.goto (-36), 3) := by decide +kernel
theorem dX6_solved_126 : decode cX6_solved 126 = .ok (.iload_n 2, 1) := by decide +kernel
theorem dX6_solved_127 : decode cX6_solved 127 = .ok (.ireturn, 1) := by decide +kernel
theorem dX6_looksAtAll_0 : decode cX6_looksAtAll 0 = .ok (.iconst 0, 1) := by decide +kernel
theorem dX6_looksAtAll_1 : decode cX6_looksAtAll 1 = .ok (.istore_n 1, 1) := by decide +kernel
theorem dX6_looksAtAll_2 : decode cX6_looksAtAll 2 = .ok (.iload_n 1, 1) := by decide +kernel
theorem dX6_looksAtAll_3 : decode cX6_looksAtAll 3 = .ok (.aload_n 0, 1) := by decide +kernel
theorem dX6_looksAtAll_4 : decode cX6_looksAtAll 4 = .ok (.getfield 13, 3) := by decide +kernel
theorem dX6_looksAtAll_7 : decode cX6_looksAtAll 7 = .ok (.iconst 1, 1) := by decide +kernel
theorem dX6_looksAtAll_8 : decode cX6_looksAtAll 8 = .ok (.iaload, 1) := by decide +kernel
theorem dX6_looksAtAll_9 : decode cX6_looksAtAll 9 = .ok (.if_icmp .ge 16, 3) := by decide +kernel
theorem dX6_looksAtAll_12 : decode cX6_looksAtAll 12 = .ok (.aload_n 0, 1) := by decide +kernel
theorem dX6_looksAtAll_13 : decode cX6_looksAtAll 13 = .ok (.getfield 36, 3) := by decide +kernel
theorem dX6_looksAtAll_16 : decode cX6_looksAtAll 16 = .ok (.iload_n 1, 1) := by decide +kernel
theorem dX6_looksAtAll_17 : decode cX6_looksAtAll 17 = .ok (.iconst 1, 1) := by decide +kernel
theorem dX6_looksAtAll_18 : decode cX6_looksAtAll 18 = .ok (.iastore, 1) := by decide +kernel
theorem dX6_looksAtAll_19 : decode cX6_looksAtAll 19 = .ok (.iinc 1 1, 3) := by decide +kernel
theorem dX6_looksAtAll_22 : decode cX6_looksAtAll 22 = .ok (.goto (-20), 3) := by decide +kernel
theorem dX6_looksAtAll_25 : decode cX6_looksAtAll 25 = .ok (.return_, 1) := by decide +kernel
theorem dX6_wonByEven_0 : decode cX6_wonByEven 0 = .ok (.aload_n 0, 1) := by decide +kernel
theorem dX6_wonByEven_1 : decode cX6_wonByEven 1 = .ok (.invokevirtual 89, 3) := by decide +kernel
theorem dX6_wonByEven_4 : decode cX6_wonByEven 4 = .ok (.aload_n 0, 1) := by decide +kernel
theorem dX6_wonByEven_5 : decode cX6_wonByEven 5 = .ok (.invokevirtual 92, 3) := by decide +kernel
theorem dX6_wonByEven_8 : decode cX6_wonByEven 8 = .ok (.ireturn, 1) := by decide +kernel
theorem dX6_all_0 : decode cX6_all 0 = .ok (.iconst 1, 1) := by decide +kernel
theorem dX6_all_1 : decode cX6_all 1 = .ok (.aload_n 0, 1) := by decide +kernel
theorem dX6_all_2 : decode cX6_all 2 = .ok (.getfield 13, 3) := by decide +kernel
theorem dX6_all_5 : decode cX6_all 5 = .ok (.iconst 0, 1) := by decide +kernel
theorem dX6_all_6 : decode cX6_all 6 = .ok (.iaload, 1) := by decide +kernel
theorem dX6_all_7 : decode cX6_all 7 = .ok (.ishl, 1) := by decide +kernel
theorem dX6_all_8 : decode cX6_all 8 = .ok (.iconst 1, 1) := by decide +kernel
theorem dX6_all_9 : decode cX6_all 9 = .ok (.isub, 1) := by decide +kernel
theorem dX6_all_10 : decode cX6_all 10 = .ok (.ireturn, 1) := by decide +kernel
theorem dX6_wonBy_0 : decode cX6_wonBy 0 = .ok (.aload_n 0, 1) := by decide +kernel
theorem dX6_wonBy_1 : decode cX6_wonBy 1 = .ok (.invokevirtual 96, 3) := by decide +kernel
theorem dX6_wonBy_4 : decode cX6_wonBy 4 = .ok (.istore_n 2, 1) := by decide +kernel
theorem dX6_wonBy_5 : decode cX6_wonBy 5 = .ok (.iload_n 1, 1) := by decide +kernel
theorem dX6_wonBy_6 : decode cX6_wonBy 6 = .ok (.ifCond .ne 7, 3) := by decide +kernel
theorem dX6_wonBy_9 : decode cX6_wonBy 9 = .ok (.iload_n 2, 1) := by decide +kernel
theorem dX6_wonBy_10 : decode cX6_wonBy 10 = .ok (.goto 11, 3) := by decide +kernel
theorem dX6_wonBy_13 : decode cX6_wonBy 13 = .ok (.aload_n 0, 1) := by decide +kernel
theorem dX6_wonBy_14 : decode cX6_wonBy 14 = .ok (.invokevirtual 99, 3) := by decide +kernel
theorem dX6_wonBy_17 : decode cX6_wonBy 17 = .ok (.iload_n 2, 1) := by decide +kernel
theorem dX6_wonBy_18 : decode cX6_wonBy 18 = .ok (.iconst (-1), 1) := by decide +kernel
theorem dX6_wonBy_19 : decode cX6_wonBy 19 = .ok (.ixor, 1) := by decide +kernel
theorem dX6_wonBy_20 : decode cX6_wonBy 20 = .ok (.iand, 1) := by decide +kernel
theorem dX6_wonBy_21 : decode cX6_wonBy 21 = .ok (.ireturn, 1) := by decide +kernel
theorem dX6_only_0 : decode cX6_only 0 = .ok (.iconst 0, 1) := by decide +kernel
theorem dX6_only_1 : decode cX6_only 1 = .ok (.istore_n 3, 1) := by decide +kernel
theorem dX6_only_2 : decode cX6_only 2 = .ok (.iload_n 3, 1) := by decide +kernel
theorem dX6_only_3 : decode cX6_only 3 = .ok (.aload_n 0, 1) := by decide +kernel
theorem dX6_only_4 : decode cX6_only 4 = .ok (.getfield 13, 3) := by decide +kernel
theorem dX6_only_7 : decode cX6_only 7 = .ok (.iconst 1, 1) := by decide +kernel
theorem dX6_only_8 : decode cX6_only 8 = .ok (.iaload, 1) := by decide +kernel
theorem dX6_only_9 : decode cX6_only 9 = .ok (.if_icmp .ge 38, 3) := by decide +kernel
theorem dX6_only_12 : decode cX6_only 12 = .ok (.aload_n 0, 1) := by decide +kernel
theorem dX6_only_13 : decode cX6_only 13 = .ok (.getfield 13, 3) := by decide +kernel
theorem dX6_only_16 : decode cX6_only 16 = .ok (.bipush 44, 2) := by decide +kernel
theorem dX6_only_18 : decode cX6_only 18 = .ok (.iload_n 3, 1) := by decide +kernel
theorem dX6_only_19 : decode cX6_only 19 = .ok (.iadd, 1) := by decide +kernel
theorem dX6_only_20 : decode cX6_only 20 = .ok (.iaload, 1) := by decide +kernel
theorem dX6_only_21 : decode cX6_only 21 = .ok (.iload_n 1, 1) := by decide +kernel
theorem dX6_only_22 : decode cX6_only 22 = .ok (.if_icmp .ne 19, 3) := by decide +kernel
theorem dX6_only_25 : decode cX6_only 25 = .ok (.aload_n 0, 1) := by decide +kernel
theorem dX6_only_26 : decode cX6_only 26 = .ok (.getfield 36, 3) := by decide +kernel
theorem dX6_only_29 : decode cX6_only 29 = .ok (.iload_n 3, 1) := by decide +kernel
theorem dX6_only_30 : decode cX6_only 30 = .ok (.iload_n 3, 1) := by decide +kernel
theorem dX6_only_31 : decode cX6_only 31 = .ok (.iload_n 2, 1) := by decide +kernel
theorem dX6_only_32 : decode cX6_only 32 = .ok (.if_icmp .ne 7, 3) := by decide +kernel
theorem dX6_only_35 : decode cX6_only 35 = .ok (.iconst 1, 1) := by decide +kernel
theorem dX6_only_36 : decode cX6_only 36 = .ok (.goto 4, 3) := by decide +kernel
theorem dX6_only_39 : decode cX6_only 39 = .ok (.iconst 0, 1) := by decide +kernel
theorem dX6_only_40 : decode cX6_only 40 = .ok (.iastore, 1) := by decide +kernel
theorem dX6_only_41 : decode cX6_only 41 = .ok (.iinc 3 1, 3) := by decide +kernel
theorem dX6_only_44 : decode cX6_only 44 = .ok (.goto (-42), 3) := by decide +kernel
theorem dX6_only_47 : decode cX6_only 47 = .ok (.return_, 1) := by decide +kernel
theorem dX6_firstMove_0 : decode cX6_firstMove 0 = .ok (.iconst 0, 1) := by decide +kernel
theorem dX6_firstMove_1 : decode cX6_firstMove 1 = .ok (.istore_n 2, 1) := by decide +kernel
theorem dX6_firstMove_2 : decode cX6_firstMove 2 = .ok (.iload_n 2, 1) := by decide +kernel
theorem dX6_firstMove_3 : decode cX6_firstMove 3 = .ok (.aload_n 0, 1) := by decide +kernel
theorem dX6_firstMove_4 : decode cX6_firstMove 4 = .ok (.getfield 13, 3) := by decide +kernel
theorem dX6_firstMove_7 : decode cX6_firstMove 7 = .ok (.iconst 1, 1) := by decide +kernel
theorem dX6_firstMove_8 : decode cX6_firstMove 8 = .ok (.iaload, 1) := by decide +kernel
theorem dX6_firstMove_9 : decode cX6_firstMove 9 = .ok (.if_icmp .ge 24, 3) := by decide +kernel
theorem dX6_firstMove_12 : decode cX6_firstMove 12 = .ok (.aload_n 0, 1) := by decide +kernel
theorem dX6_firstMove_13 : decode cX6_firstMove 13 = .ok (.getfield 13, 3) := by decide +kernel
theorem dX6_firstMove_16 : decode cX6_firstMove 16 = .ok (.bipush 44, 2) := by decide +kernel
theorem dX6_firstMove_18 : decode cX6_firstMove 18 = .ok (.iload_n 2, 1) := by decide +kernel
theorem dX6_firstMove_19 : decode cX6_firstMove 19 = .ok (.iadd, 1) := by decide +kernel
theorem dX6_firstMove_20 : decode cX6_firstMove 20 = .ok (.iaload, 1) := by decide +kernel
theorem dX6_firstMove_21 : decode cX6_firstMove 21 = .ok (.iload_n 1, 1) := by decide +kernel
theorem dX6_firstMove_22 : decode cX6_firstMove 22 = .ok (.if_icmp .ne 5, 3) := by decide +kernel
theorem dX6_firstMove_25 : decode cX6_firstMove 25 = .ok (.iload_n 2, 1) := by decide +kernel
theorem dX6_firstMove_26 : decode cX6_firstMove 26 = .ok (.ireturn, 1) := by decide +kernel
theorem dX6_firstMove_27 : decode cX6_firstMove 27 = .ok (.iinc 2 1, 3) := by decide +kernel
theorem dX6_firstMove_30 : decode cX6_firstMove 30 = .ok (.goto (-28), 3) := by decide +kernel
theorem dX6_firstMove_33 : decode cX6_firstMove 33 = .ok (.iconst (-1), 1) := by decide +kernel
theorem dX6_firstMove_34 : decode cX6_firstMove 34 = .ok (.ireturn, 1) := by decide +kernel
theorem dX6_plansFor_0 : decode cX6_plansFor 0 = .ok (.aload_n 0, 1) := by decide +kernel
theorem dX6_plansFor_1 : decode cX6_plansFor 1 = .ok (.invokevirtual 89, 3) := by decide +kernel
theorem dX6_plansFor_4 : decode cX6_plansFor 4 = .ok (.iconst 0, 1) := by decide +kernel
theorem dX6_plansFor_5 : decode cX6_plansFor 5 = .ok (.istore_n 3, 1) := by decide +kernel
theorem dX6_plansFor_6 : decode cX6_plansFor 6 = .ok (.iload_n 3, 1) := by decide +kernel
theorem dX6_plansFor_7 : decode cX6_plansFor 7 = .ok (.aload_n 0, 1) := by decide +kernel
theorem dX6_plansFor_8 : decode cX6_plansFor 8 = .ok (.getfield 13, 3) := by decide +kernel
theorem dX6_plansFor_11 : decode cX6_plansFor 11 = .ok (.iconst 0, 1) := by decide +kernel
theorem dX6_plansFor_12 : decode cX6_plansFor 12 = .ok (.iaload, 1) := by decide +kernel
theorem dX6_plansFor_13 : decode cX6_plansFor 13 = .ok (.if_icmp .ge 128, 3) := by decide +kernel
theorem dX6_plansFor_16 : decode cX6_plansFor 16 = .ok (.aload_n 0, 1) := by decide +kernel
theorem dX6_plansFor_17 : decode cX6_plansFor 17 = .ok (.getfield 13, 3) := by decide +kernel
theorem dX6_plansFor_20 : decode cX6_plansFor 20 = .ok (.iconst 4, 1) := by decide +kernel
theorem dX6_plansFor_21 : decode cX6_plansFor 21 = .ok (.iload_n 3, 1) := by decide +kernel
theorem dX6_plansFor_22 : decode cX6_plansFor 22 = .ok (.iadd, 1) := by decide +kernel
theorem dX6_plansFor_23 : decode cX6_plansFor 23 = .ok (.iaload, 1) := by decide +kernel
theorem dX6_plansFor_24 : decode cX6_plansFor 24 = .ok (.iload_n 1, 1) := by decide +kernel
theorem dX6_plansFor_25 : decode cX6_plansFor 25 = .ok (.if_icmp .ne 110, 3) := by decide +kernel
theorem dX6_plansFor_28 : decode cX6_plansFor 28 = .ok (.iload_n 2, 1) := by decide +kernel
theorem dX6_plansFor_29 : decode cX6_plansFor 29 = .ok (.iload_n 3, 1) := by decide +kernel
theorem dX6_plansFor_30 : decode cX6_plansFor 30 = .ok (.invokestatic 102, 3) := by decide +kernel
theorem dX6_plansFor_33 : decode cX6_plansFor 33 = .ok (.ifCond .eq 102, 3) := by decide +kernel
theorem dX6_plansFor_36 : decode cX6_plansFor 36 = .ok (.iconst 0, 1) := by decide +kernel
theorem dX6_plansFor_37 : decode cX6_plansFor 37 = .ok (.istore 4, 2) := by decide +kernel
theorem dX6_plansFor_39 : decode cX6_plansFor 39 = .ok (.iconst 0, 1) := by decide +kernel
theorem dX6_plansFor_40 : decode cX6_plansFor 40 = .ok (.istore 5, 2) := by decide +kernel
theorem dX6_plansFor_42 : decode cX6_plansFor 42 = .ok (.iload 5, 2) := by decide +kernel
theorem dX6_plansFor_44 : decode cX6_plansFor 44 = .ok (.aload_n 0, 1) := by decide +kernel
theorem dX6_plansFor_45 : decode cX6_plansFor 45 = .ok (.getfield 13, 3) := by decide +kernel
theorem dX6_plansFor_48 : decode cX6_plansFor 48 = .ok (.iconst 1, 1) := by decide +kernel
theorem dX6_plansFor_49 : decode cX6_plansFor 49 = .ok (.iaload, 1) := by decide +kernel
theorem dX6_plansFor_50 : decode cX6_plansFor 50 = .ok (.if_icmp .ge 85, 3) := by decide +kernel
theorem dX6_plansFor_53 : decode cX6_plansFor 53 = .ok (.iload 4, 2) := by decide +kernel
theorem dX6_plansFor_55 : decode cX6_plansFor 55 = .ok (.ifCond .ne 80, 3) := by decide +kernel
theorem dX6_plansFor_58 : decode cX6_plansFor 58 = .ok (.aload_n 0, 1) := by decide +kernel
theorem dX6_plansFor_59 : decode cX6_plansFor 59 = .ok (.getfield 13, 3) := by decide +kernel
theorem dX6_plansFor_62 : decode cX6_plansFor 62 = .ok (.bipush 44, 2) := by decide +kernel
theorem dX6_plansFor_64 : decode cX6_plansFor 64 = .ok (.iload 5, 2) := by decide +kernel
theorem dX6_plansFor_66 : decode cX6_plansFor 66 = .ok (.iadd, 1) := by decide +kernel
theorem dX6_plansFor_67 : decode cX6_plansFor 67 = .ok (.iaload, 1) := by decide +kernel
theorem dX6_plansFor_68 : decode cX6_plansFor 68 = .ok (.iload_n 3, 1) := by decide +kernel
theorem dX6_plansFor_69 : decode cX6_plansFor 69 = .ok (.if_icmp .ne 60, 3) := by decide +kernel
theorem dX6_plansFor_72 : decode cX6_plansFor 72 = .ok (.aload_n 0, 1) := by decide +kernel
theorem dX6_plansFor_73 : decode cX6_plansFor 73 = .ok (.iload_n 3, 1) := by decide +kernel
theorem dX6_plansFor_74 : decode cX6_plansFor 74 = .ok (.iload 5, 2) := by decide +kernel
theorem dX6_plansFor_76 : decode cX6_plansFor 76 = .ok (.invokevirtual 106, 3) := by decide +kernel
theorem dX6_plansFor_79 : decode cX6_plansFor 79 = .ok (.aload_n 0, 1) := by decide +kernel
theorem dX6_plansFor_80 : decode cX6_plansFor 80 = .ok (.invokevirtual 92, 3) := by decide +kernel
theorem dX6_plansFor_83 : decode cX6_plansFor 83 = .ok (.istore 6, 2) := by decide +kernel
theorem dX6_plansFor_85 : decode cX6_plansFor 85 = .ok (.iload_n 1, 1) := by decide +kernel
theorem dX6_plansFor_86 : decode cX6_plansFor 86 = .ok (.ifCond .ne 8, 3) := by decide +kernel
theorem dX6_plansFor_89 : decode cX6_plansFor 89 = .ok (.iload 6, 2) := by decide +kernel
theorem dX6_plansFor_91 : decode cX6_plansFor 91 = .ok (.goto 12, 3) := by decide +kernel
theorem dX6_plansFor_94 : decode cX6_plansFor 94 = .ok (.aload_n 0, 1) := by decide +kernel
theorem dX6_plansFor_95 : decode cX6_plansFor 95 = .ok (.invokevirtual 99, 3) := by decide +kernel
theorem dX6_plansFor_98 : decode cX6_plansFor 98 = .ok (.iload 6, 2) := by decide +kernel
theorem dX6_plansFor_100 : decode cX6_plansFor 100 = .ok (.iconst (-1), 1) := by decide +kernel
theorem dX6_plansFor_101 : decode cX6_plansFor 101 = .ok (.ixor, 1) := by decide +kernel
theorem dX6_plansFor_102 : decode cX6_plansFor 102 = .ok (.iand, 1) := by decide +kernel
theorem dX6_plansFor_103 : decode cX6_plansFor 103 = .ok (.istore 7, 2) := by decide +kernel
theorem dX6_plansFor_105 : decode cX6_plansFor 105 = .ok (.iload_n 2, 1) := by decide +kernel
theorem dX6_plansFor_106 : decode cX6_plansFor 106 = .ok (.iload 7, 2) := by decide +kernel
theorem dX6_plansFor_108 : decode cX6_plansFor 108 = .ok (.iconst (-1), 1) := by decide +kernel
theorem dX6_plansFor_109 : decode cX6_plansFor 109 = .ok (.ixor, 1) := by decide +kernel
theorem dX6_plansFor_110 : decode cX6_plansFor 110 = .ok (.iand, 1) := by decide +kernel
theorem dX6_plansFor_111 : decode cX6_plansFor 111 = .ok (.ifCond .ne 7, 3) := by decide +kernel
theorem dX6_plansFor_114 : decode cX6_plansFor 114 = .ok (.iconst 1, 1) := by decide +kernel
theorem dX6_plansFor_115 : decode cX6_plansFor 115 = .ok (.goto 4, 3) := by decide +kernel
theorem dX6_plansFor_118 : decode cX6_plansFor 118 = .ok (.iconst 0, 1) := by decide +kernel
theorem dX6_plansFor_119 : decode cX6_plansFor 119 = .ok (.istore 4, 2) := by decide +kernel
theorem dX6_plansFor_121 : decode cX6_plansFor 121 = .ok (.aload_n 0, 1) := by decide +kernel
theorem dX6_plansFor_122 : decode cX6_plansFor 122 = .ok (.getfield 45, 3) := by decide +kernel
theorem dX6_plansFor_125 : decode cX6_plansFor 125 = .ok (.iload_n 3, 1) := by decide +kernel
theorem dX6_plansFor_126 : decode cX6_plansFor 126 = .ok (.iload 5, 2) := by decide +kernel
theorem dX6_plansFor_128 : decode cX6_plansFor 128 = .ok (.iastore, 1) := by decide +kernel
theorem dX6_plansFor_129 : decode cX6_plansFor 129 = .ok (.iinc 5 1, 3) := by decide +kernel
theorem dX6_plansFor_132 : decode cX6_plansFor 132 = .ok (.goto (-90), 3) := by decide +kernel
theorem dX6_plansFor_135 : decode cX6_plansFor 135 = .ok (.iinc 3 1, 3) := by decide +kernel
theorem dX6_plansFor_138 : decode cX6_plansFor 138 = .ok (.goto (-132), 3) := by decide +kernel
theorem dX6_plansFor_141 : decode cX6_plansFor 141 = .ok (.return_, 1) := by decide +kernel
theorem dX6_plans_0 : decode cX6_plans 0 = .ok (.aload_n 0, 1) := by decide +kernel
theorem dX6_plans_1 : decode cX6_plans 1 = .ok (.invokevirtual 96, 3) := by decide +kernel
theorem dX6_plans_4 : decode cX6_plans 4 = .ok (.istore_n 1, 1) := by decide +kernel
theorem dX6_plans_5 : decode cX6_plans 5 = .ok (.iconst 0, 1) := by decide +kernel
theorem dX6_plans_6 : decode cX6_plans 6 = .ok (.istore_n 2, 1) := by decide +kernel
theorem dX6_plans_7 : decode cX6_plans 7 = .ok (.iload_n 2, 1) := by decide +kernel
theorem dX6_plans_8 : decode cX6_plans 8 = .ok (.aload_n 0, 1) := by decide +kernel
theorem dX6_plans_9 : decode cX6_plans 9 = .ok (.getfield 13, 3) := by decide +kernel
theorem dX6_plans_12 : decode cX6_plans 12 = .ok (.iconst 0, 1) := by decide +kernel
theorem dX6_plans_13 : decode cX6_plans 13 = .ok (.iaload, 1) := by decide +kernel
theorem dX6_plans_14 : decode cX6_plans 14 = .ok (.if_icmp .ge 20, 3) := by decide +kernel
theorem dX6_plans_17 : decode cX6_plans 17 = .ok (.aload_n 0, 1) := by decide +kernel
theorem dX6_plans_18 : decode cX6_plans 18 = .ok (.getfield 45, 3) := by decide +kernel
theorem dX6_plans_21 : decode cX6_plans 21 = .ok (.iload_n 2, 1) := by decide +kernel
theorem dX6_plans_22 : decode cX6_plans 22 = .ok (.aload_n 0, 1) := by decide +kernel
theorem dX6_plans_23 : decode cX6_plans 23 = .ok (.iload_n 2, 1) := by decide +kernel
theorem dX6_plans_24 : decode cX6_plans 24 = .ok (.invokevirtual 109, 3) := by decide +kernel
theorem dX6_plans_27 : decode cX6_plans 27 = .ok (.iastore, 1) := by decide +kernel
theorem dX6_plans_28 : decode cX6_plans 28 = .ok (.iinc 2 1, 3) := by decide +kernel
theorem dX6_plans_31 : decode cX6_plans 31 = .ok (.goto (-24), 3) := by decide +kernel
theorem dX6_plans_34 : decode cX6_plans 34 = .ok (.aload_n 0, 1) := by decide +kernel
theorem dX6_plans_35 : decode cX6_plans 35 = .ok (.iconst 0, 1) := by decide +kernel
theorem dX6_plans_36 : decode cX6_plans 36 = .ok (.iload_n 1, 1) := by decide +kernel
theorem dX6_plans_37 : decode cX6_plans 37 = .ok (.invokevirtual 112, 3) := by decide +kernel
theorem dX6_plans_40 : decode cX6_plans 40 = .ok (.aload_n 0, 1) := by decide +kernel
theorem dX6_plans_41 : decode cX6_plans 41 = .ok (.iconst 1, 1) := by decide +kernel
theorem dX6_plans_42 : decode cX6_plans 42 = .ok (.aload_n 0, 1) := by decide +kernel
theorem dX6_plans_43 : decode cX6_plans 43 = .ok (.invokevirtual 99, 3) := by decide +kernel
theorem dX6_plans_46 : decode cX6_plans 46 = .ok (.iload_n 1, 1) := by decide +kernel
theorem dX6_plans_47 : decode cX6_plans 47 = .ok (.iconst (-1), 1) := by decide +kernel
theorem dX6_plans_48 : decode cX6_plans 48 = .ok (.ixor, 1) := by decide +kernel
theorem dX6_plans_49 : decode cX6_plans 49 = .ok (.iand, 1) := by decide +kernel
theorem dX6_plans_50 : decode cX6_plans 50 = .ok (.invokevirtual 112, 3) := by decide +kernel
theorem dX6_plans_53 : decode cX6_plans 53 = .ok (.return_, 1) := by decide +kernel
theorem dX6_plays_0 : decode cX6_plays 0 = .ok (.iconst 0, 1) := by decide +kernel
theorem dX6_plays_1 : decode cX6_plays 1 = .ok (.istore_n 2, 1) := by decide +kernel
theorem dX6_plays_2 : decode cX6_plays 2 = .ok (.iload_n 2, 1) := by decide +kernel
theorem dX6_plays_3 : decode cX6_plays 3 = .ok (.aload_n 0, 1) := by decide +kernel
theorem dX6_plays_4 : decode cX6_plays 4 = .ok (.getfield 13, 3) := by decide +kernel
theorem dX6_plays_7 : decode cX6_plays 7 = .ok (.iconst 0, 1) := by decide +kernel
theorem dX6_plays_8 : decode cX6_plays 8 = .ok (.iaload, 1) := by decide +kernel
theorem dX6_plays_9 : decode cX6_plays 9 = .ok (.if_icmp .ge 16, 3) := by decide +kernel
theorem dX6_plays_12 : decode cX6_plays 12 = .ok (.aload_n 0, 1) := by decide +kernel
theorem dX6_plays_13 : decode cX6_plays 13 = .ok (.getfield 48, 3) := by decide +kernel
theorem dX6_plays_16 : decode cX6_plays 16 = .ok (.iload_n 2, 1) := by decide +kernel
theorem dX6_plays_17 : decode cX6_plays 17 = .ok (.iconst (-1), 1) := by decide +kernel
theorem dX6_plays_18 : decode cX6_plays 18 = .ok (.iastore, 1) := by decide +kernel
theorem dX6_plays_19 : decode cX6_plays 19 = .ok (.iinc 2 1, 3) := by decide +kernel
theorem dX6_plays_22 : decode cX6_plays 22 = .ok (.goto (-20), 3) := by decide +kernel
theorem dX6_plays_25 : decode cX6_plays 25 = .ok (.iload_n 1, 1) := by decide +kernel
theorem dX6_plays_26 : decode cX6_plays 26 = .ok (.istore_n 2, 1) := by decide +kernel
theorem dX6_plays_27 : decode cX6_plays 27 = .ok (.iconst 0, 1) := by decide +kernel
theorem dX6_plays_28 : decode cX6_plays 28 = .ok (.istore_n 3, 1) := by decide +kernel
theorem dX6_plays_29 : decode cX6_plays 29 = .ok (.aload_n 0, 1) := by decide +kernel
theorem dX6_plays_30 : decode cX6_plays 30 = .ok (.getfield 48, 3) := by decide +kernel
theorem dX6_plays_33 : decode cX6_plays 33 = .ok (.iload_n 2, 1) := by decide +kernel
theorem dX6_plays_34 : decode cX6_plays 34 = .ok (.iaload, 1) := by decide +kernel
theorem dX6_plays_35 : decode cX6_plays 35 = .ok (.iconst (-1), 1) := by decide +kernel
theorem dX6_plays_36 : decode cX6_plays 36 = .ok (.if_icmp .ne 41, 3) := by decide +kernel
theorem dX6_plays_39 : decode cX6_plays 39 = .ok (.aload_n 0, 1) := by decide +kernel
theorem dX6_plays_40 : decode cX6_plays 40 = .ok (.getfield 45, 3) := by decide +kernel
theorem dX6_plays_43 : decode cX6_plays 43 = .ok (.iload_n 2, 1) := by decide +kernel
theorem dX6_plays_44 : decode cX6_plays 44 = .ok (.iaload, 1) := by decide +kernel
theorem dX6_plays_45 : decode cX6_plays 45 = .ok (.iconst (-1), 1) := by decide +kernel
theorem dX6_plays_46 : decode cX6_plays 46 = .ok (.if_icmp .eq 31, 3) := by decide +kernel
theorem dX6_plays_49 : decode cX6_plays 49 = .ok (.aload_n 0, 1) := by decide +kernel
theorem dX6_plays_50 : decode cX6_plays 50 = .ok (.getfield 48, 3) := by decide +kernel
theorem dX6_plays_53 : decode cX6_plays 53 = .ok (.iload_n 2, 1) := by decide +kernel
theorem dX6_plays_54 : decode cX6_plays 54 = .ok (.iload_n 3, 1) := by decide +kernel
theorem dX6_plays_55 : decode cX6_plays 55 = .ok (.iastore, 1) := by decide +kernel
theorem dX6_plays_56 : decode cX6_plays 56 = .ok (.iinc 3 1, 3) := by decide +kernel
theorem dX6_plays_59 : decode cX6_plays 59 = .ok (.aload_n 0, 1) := by decide +kernel
theorem dX6_plays_60 : decode cX6_plays 60 = .ok (.getfield 13, 3) := by decide +kernel
theorem dX6_plays_63 : decode cX6_plays 63 = .ok (.bipush 105, 2) := by decide +kernel
theorem dX6_plays_65 : decode cX6_plays 65 = .ok (.aload_n 0, 1) := by decide +kernel
theorem dX6_plays_66 : decode cX6_plays 66 = .ok (.getfield 45, 3) := by decide +kernel
theorem dX6_plays_69 : decode cX6_plays 69 = .ok (.iload_n 2, 1) := by decide +kernel
theorem dX6_plays_70 : decode cX6_plays 70 = .ok (.iaload, 1) := by decide +kernel
theorem dX6_plays_71 : decode cX6_plays 71 = .ok (.iadd, 1) := by decide +kernel
theorem dX6_plays_72 : decode cX6_plays 72 = .ok (.iaload, 1) := by decide +kernel
theorem dX6_plays_73 : decode cX6_plays 73 = .ok (.istore_n 2, 1) := by decide +kernel
theorem dX6_plays_74 : decode cX6_plays 74 = .ok (.goto (-45), 3) := by decide +kernel
theorem dX6_plays_77 : decode cX6_plays 77 = .ok (.aload_n 0, 1) := by decide +kernel
theorem dX6_plays_78 : decode cX6_plays 78 = .ok (.getfield 45, 3) := by decide +kernel
theorem dX6_plays_81 : decode cX6_plays 81 = .ok (.iload_n 2, 1) := by decide +kernel
theorem dX6_plays_82 : decode cX6_plays 82 = .ok (.iaload, 1) := by decide +kernel
theorem dX6_plays_83 : decode cX6_plays 83 = .ok (.iconst (-1), 1) := by decide +kernel
theorem dX6_plays_84 : decode cX6_plays 84 = .ok (.if_icmp .ne 19, 3) := by decide +kernel
theorem dX6_plays_87 : decode cX6_plays 87 = .ok (.aload_n 0, 1) := by decide +kernel
theorem dX6_plays_88 : decode cX6_plays 88 = .ok (.iload_n 3, 1) := by decide +kernel
theorem dX6_plays_89 : decode cX6_plays 89 = .ok (.putfield 115, 3) := by decide +kernel
theorem dX6_plays_92 : decode cX6_plays 92 = .ok (.aload_n 0, 1) := by decide +kernel
theorem dX6_plays_93 : decode cX6_plays 93 = .ok (.iconst 0, 1) := by decide +kernel
theorem dX6_plays_94 : decode cX6_plays 94 = .ok (.putfield 118, 3) := by decide +kernel
theorem dX6_plays_97 : decode cX6_plays 97 = .ok (.aload_n 0, 1) := by decide +kernel
theorem dX6_plays_98 : decode cX6_plays 98 = .ok (.iconst (-1), 1) := by decide +kernel
theorem dX6_plays_99 : decode cX6_plays 99 = .ok (.putfield 121, 3) := by decide +kernel
theorem dX6_plays_102 : decode cX6_plays 102 = .ok (.return_, 1) := by decide +kernel
theorem dX6_plays_103 : decode cX6_plays 103 = .ok (.aload_n 0, 1) := by decide +kernel
theorem dX6_plays_104 : decode cX6_plays 104 = .ok (.aload_n 0, 1) := by decide +kernel
theorem dX6_plays_105 : decode cX6_plays 105 = .ok (.getfield 48, 3) := by decide +kernel
theorem dX6_plays_108 : decode cX6_plays 108 = .ok (.iload_n 2, 1) := by decide +kernel
theorem dX6_plays_109 : decode cX6_plays 109 = .ok (.iaload, 1) := by decide +kernel
theorem dX6_plays_110 : decode cX6_plays 110 = .ok (.putfield 115, 3) := by decide +kernel
theorem dX6_plays_113 : decode cX6_plays 113 = .ok (.aload_n 0, 1) := by decide +kernel
theorem dX6_plays_114 : decode cX6_plays 114 = .ok (.iload_n 3, 1) := by decide +kernel
theorem dX6_plays_115 : decode cX6_plays 115 = .ok (.aload_n 0, 1) := by decide +kernel
theorem dX6_plays_116 : decode cX6_plays 116 = .ok (.getfield 48, 3) := by decide +kernel
theorem dX6_plays_119 : decode cX6_plays 119 = .ok (.iload_n 2, 1) := by decide +kernel
theorem dX6_plays_120 : decode cX6_plays 120 = .ok (.iaload, 1) := by decide +kernel
theorem dX6_plays_121 : decode cX6_plays 121 = .ok (.isub, 1) := by decide +kernel
theorem dX6_plays_122 : decode cX6_plays 122 = .ok (.putfield 118, 3) := by decide +kernel
theorem dX6_plays_125 : decode cX6_plays 125 = .ok (.aload_n 0, 1) := by decide +kernel
theorem dX6_plays_126 : decode cX6_plays 126 = .ok (.iconst (-1), 1) := by decide +kernel
theorem dX6_plays_127 : decode cX6_plays 127 = .ok (.putfield 121, 3) := by decide +kernel
theorem dX6_plays_130 : decode cX6_plays 130 = .ok (.iconst 0, 1) := by decide +kernel
theorem dX6_plays_131 : decode cX6_plays 131 = .ok (.istore 4, 2) := by decide +kernel
theorem dX6_plays_133 : decode cX6_plays 133 = .ok (.iload 4, 2) := by decide +kernel
theorem dX6_plays_135 : decode cX6_plays 135 = .ok (.aload_n 0, 1) := by decide +kernel
theorem dX6_plays_136 : decode cX6_plays 136 = .ok (.getfield 13, 3) := by decide +kernel
theorem dX6_plays_139 : decode cX6_plays 139 = .ok (.iconst 0, 1) := by decide +kernel
theorem dX6_plays_140 : decode cX6_plays 140 = .ok (.iaload, 1) := by decide +kernel
theorem dX6_plays_141 : decode cX6_plays 141 = .ok (.if_icmp .ge 54, 3) := by decide +kernel
theorem dX6_plays_144 : decode cX6_plays 144 = .ok (.aload_n 0, 1) := by decide +kernel
theorem dX6_plays_145 : decode cX6_plays 145 = .ok (.getfield 48, 3) := by decide +kernel
theorem dX6_plays_148 : decode cX6_plays 148 = .ok (.iload 4, 2) := by decide +kernel
theorem dX6_plays_150 : decode cX6_plays 150 = .ok (.iaload, 1) := by decide +kernel
theorem dX6_plays_151 : decode cX6_plays 151 = .ok (.aload_n 0, 1) := by decide +kernel
theorem dX6_plays_152 : decode cX6_plays 152 = .ok (.getfield 115, 3) := by decide +kernel
theorem dX6_plays_155 : decode cX6_plays 155 = .ok (.if_icmp .lt 34, 3) := by decide +kernel
theorem dX6_plays_158 : decode cX6_plays 158 = .ok (.aload_n 0, 1) := by decide +kernel
theorem dX6_plays_159 : decode cX6_plays 159 = .ok (.getfield 13, 3) := by decide +kernel
theorem dX6_plays_162 : decode cX6_plays 162 = .ok (.bipush 24, 2) := by decide +kernel
theorem dX6_plays_164 : decode cX6_plays 164 = .ok (.iload 4, 2) := by decide +kernel
theorem dX6_plays_166 : decode cX6_plays 166 = .ok (.iadd, 1) := by decide +kernel
theorem dX6_plays_167 : decode cX6_plays 167 = .ok (.iaload, 1) := by decide +kernel
theorem dX6_plays_168 : decode cX6_plays 168 = .ok (.aload_n 0, 1) := by decide +kernel
theorem dX6_plays_169 : decode cX6_plays 169 = .ok (.getfield 121, 3) := by decide +kernel
theorem dX6_plays_172 : decode cX6_plays 172 = .ok (.if_icmp .le 17, 3) := by decide +kernel
theorem dX6_plays_175 : decode cX6_plays 175 = .ok (.aload_n 0, 1) := by decide +kernel
theorem dX6_plays_176 : decode cX6_plays 176 = .ok (.aload_n 0, 1) := by decide +kernel
theorem dX6_plays_177 : decode cX6_plays 177 = .ok (.getfield 13, 3) := by decide +kernel
theorem dX6_plays_180 : decode cX6_plays 180 = .ok (.bipush 24, 2) := by decide +kernel
theorem dX6_plays_182 : decode cX6_plays 182 = .ok (.iload 4, 2) := by decide +kernel
theorem dX6_plays_184 : decode cX6_plays 184 = .ok (.iadd, 1) := by decide +kernel
theorem dX6_plays_185 : decode cX6_plays 185 = .ok (.iaload, 1) := by decide +kernel
theorem dX6_plays_186 : decode cX6_plays 186 = .ok (.putfield 121, 3) := by decide +kernel
theorem dX6_plays_189 : decode cX6_plays 189 = .ok (.iinc 4 1, 3) := by decide +kernel
theorem dX6_plays_192 : decode cX6_plays 192 = .ok (.goto (-59), 3) := by decide +kernel
theorem dX6_plays_195 : decode cX6_plays 195 = .ok (.return_, 1) := by decide +kernel
theorem dX6_forces_0 : decode cX6_forces 0 = .ok (.iconst 0, 1) := by decide +kernel
theorem dX6_forces_1 : decode cX6_forces 1 = .ok (.istore 4, 2) := by decide +kernel
theorem dX6_forces_3 : decode cX6_forces 3 = .ok (.iconst 0, 1) := by decide +kernel
theorem dX6_forces_4 : decode cX6_forces 4 = .ok (.istore 5, 2) := by decide +kernel
theorem dX6_forces_6 : decode cX6_forces 6 = .ok (.iconst 0, 1) := by decide +kernel
theorem dX6_forces_7 : decode cX6_forces 7 = .ok (.istore 6, 2) := by decide +kernel
theorem dX6_forces_9 : decode cX6_forces 9 = .ok (.iload 6, 2) := by decide +kernel
theorem dX6_forces_11 : decode cX6_forces 11 = .ok (.aload_n 0, 1) := by decide +kernel
theorem dX6_forces_12 : decode cX6_forces 12 = .ok (.getfield 13, 3) := by decide +kernel
theorem dX6_forces_15 : decode cX6_forces 15 = .ok (.iconst 1, 1) := by decide +kernel
theorem dX6_forces_16 : decode cX6_forces 16 = .ok (.iaload, 1) := by decide +kernel
theorem dX6_forces_17 : decode cX6_forces 17 = .ok (.if_icmp .ge 53, 3) := by decide +kernel
theorem dX6_forces_20 : decode cX6_forces 20 = .ok (.aload_n 0, 1) := by decide +kernel
theorem dX6_forces_21 : decode cX6_forces 21 = .ok (.getfield 13, 3) := by decide +kernel
theorem dX6_forces_24 : decode cX6_forces 24 = .ok (.bipush 44, 2) := by decide +kernel
theorem dX6_forces_26 : decode cX6_forces 26 = .ok (.iload 6, 2) := by decide +kernel
theorem dX6_forces_28 : decode cX6_forces 28 = .ok (.iadd, 1) := by decide +kernel
theorem dX6_forces_29 : decode cX6_forces 29 = .ok (.iaload, 1) := by decide +kernel
theorem dX6_forces_30 : decode cX6_forces 30 = .ok (.iload_n 2, 1) := by decide +kernel
theorem dX6_forces_31 : decode cX6_forces 31 = .ok (.if_icmp .ne 33, 3) := by decide +kernel
theorem dX6_forces_34 : decode cX6_forces 34 = .ok (.iinc 4 1, 3) := by decide +kernel
theorem dX6_forces_37 : decode cX6_forces 37 = .ok (.iload 5, 2) := by decide +kernel
theorem dX6_forces_39 : decode cX6_forces 39 = .ok (.iload_n 3, 1) := by decide +kernel
theorem dX6_forces_40 : decode cX6_forces 40 = .ok (.aload_n 0, 1) := by decide +kernel
theorem dX6_forces_41 : decode cX6_forces 41 = .ok (.getfield 13, 3) := by decide +kernel
theorem dX6_forces_44 : decode cX6_forces 44 = .ok (.bipush 105, 2) := by decide +kernel
theorem dX6_forces_46 : decode cX6_forces 46 = .ok (.iload 6, 2) := by decide +kernel
theorem dX6_forces_48 : decode cX6_forces 48 = .ok (.iadd, 1) := by decide +kernel
theorem dX6_forces_49 : decode cX6_forces 49 = .ok (.iaload, 1) := by decide +kernel
theorem dX6_forces_50 : decode cX6_forces 50 = .ok (.invokestatic 102, 3) := by decide +kernel
theorem dX6_forces_53 : decode cX6_forces 53 = .ok (.ifCond .eq 7, 3) := by decide +kernel
theorem dX6_forces_56 : decode cX6_forces 56 = .ok (.iconst 1, 1) := by decide +kernel
theorem dX6_forces_57 : decode cX6_forces 57 = .ok (.goto 4, 3) := by decide +kernel
theorem dX6_forces_60 : decode cX6_forces 60 = .ok (.iconst 0, 1) := by decide +kernel
theorem dX6_forces_61 : decode cX6_forces 61 = .ok (.iadd, 1) := by decide +kernel
theorem dX6_forces_62 : decode cX6_forces 62 = .ok (.istore 5, 2) := by decide +kernel
theorem dX6_forces_64 : decode cX6_forces 64 = .ok (.iinc 6 1, 3) := by decide +kernel
theorem dX6_forces_67 : decode cX6_forces 67 = .ok (.goto (-58), 3) := by decide +kernel
theorem dX6_forces_70 : decode cX6_forces 70 = .ok (.aload_n 0, 1) := by decide +kernel
theorem dX6_forces_71 : decode cX6_forces 71 = .ok (.getfield 13, 3) := by decide +kernel
theorem dX6_forces_74 : decode cX6_forces 74 = .ok (.iconst 4, 1) := by decide +kernel
theorem dX6_forces_75 : decode cX6_forces 75 = .ok (.iload_n 2, 1) := by decide +kernel
theorem dX6_forces_76 : decode cX6_forces 76 = .ok (.iadd, 1) := by decide +kernel
theorem dX6_forces_77 : decode cX6_forces 77 = .ok (.iaload, 1) := by decide +kernel
theorem dX6_forces_78 : decode cX6_forces 78 = .ok (.iload_n 1, 1) := by decide +kernel
theorem dX6_forces_79 : decode cX6_forces 79 = .ok (.if_icmp .ne 16, 3) := by decide +kernel
theorem dX6_forces_82 : decode cX6_forces 82 = .ok (.iload 5, 2) := by decide +kernel
theorem dX6_forces_84 : decode cX6_forces 84 = .ok (.ifCond .le 7, 3) := by decide +kernel
theorem dX6_forces_87 : decode cX6_forces 87 = .ok (.iconst 1, 1) := by decide +kernel
theorem dX6_forces_88 : decode cX6_forces 88 = .ok (.goto 24, 3) := by decide +kernel
theorem dX6_forces_91 : decode cX6_forces 91 = .ok (.iconst 0, 1) := by decide +kernel
theorem dX6_forces_92 : decode cX6_forces 92 = .ok (.goto 20, 3) := by decide +kernel
theorem dX6_forces_95 : decode cX6_forces 95 = .ok (.iload 4, 2) := by decide +kernel
theorem dX6_forces_97 : decode cX6_forces 97 = .ok (.ifCond .le 14, 3) := by decide +kernel
theorem dX6_forces_100 : decode cX6_forces 100 = .ok (.iload 5, 2) := by decide +kernel
theorem dX6_forces_102 : decode cX6_forces 102 = .ok (.iload 4, 2) := by decide +kernel
theorem dX6_forces_104 : decode cX6_forces 104 = .ok (.if_icmp .ne 7, 3) := by decide +kernel
theorem dX6_forces_107 : decode cX6_forces 107 = .ok (.iconst 1, 1) := by decide +kernel
theorem dX6_forces_108 : decode cX6_forces 108 = .ok (.goto 4, 3) := by decide +kernel
theorem dX6_forces_111 : decode cX6_forces 111 = .ok (.iconst 0, 1) := by decide +kernel
theorem dX6_forces_112 : decode cX6_forces 112 = .ok (.ireturn, 1) := by decide +kernel
theorem dX6_forcing_0 : decode cX6_forcing 0 = .ok (.iconst 0, 1) := by decide +kernel
theorem dX6_forcing_1 : decode cX6_forcing 1 = .ok (.istore_n 3, 1) := by decide +kernel
theorem dX6_forcing_2 : decode cX6_forcing 2 = .ok (.iconst 0, 1) := by decide +kernel
theorem dX6_forcing_3 : decode cX6_forcing 3 = .ok (.istore 4, 2) := by decide +kernel
theorem dX6_forcing_5 : decode cX6_forcing 5 = .ok (.iload 4, 2) := by decide +kernel
theorem dX6_forcing_7 : decode cX6_forcing 7 = .ok (.aload_n 0, 1) := by decide +kernel
theorem dX6_forcing_8 : decode cX6_forcing 8 = .ok (.getfield 13, 3) := by decide +kernel
theorem dX6_forcing_11 : decode cX6_forcing 11 = .ok (.iconst 0, 1) := by decide +kernel
theorem dX6_forcing_12 : decode cX6_forcing 12 = .ok (.iaload, 1) := by decide +kernel
theorem dX6_forcing_13 : decode cX6_forcing 13 = .ok (.if_icmp .ge 31, 3) := by decide +kernel
theorem dX6_forcing_16 : decode cX6_forcing 16 = .ok (.iload_n 3, 1) := by decide +kernel
theorem dX6_forcing_17 : decode cX6_forcing 17 = .ok (.aload_n 0, 1) := by decide +kernel
theorem dX6_forcing_18 : decode cX6_forcing 18 = .ok (.iload_n 1, 1) := by decide +kernel
theorem dX6_forcing_19 : decode cX6_forcing 19 = .ok (.iload 4, 2) := by decide +kernel
theorem dX6_forcing_21 : decode cX6_forcing 21 = .ok (.iload_n 2, 1) := by decide +kernel
theorem dX6_forcing_22 : decode cX6_forcing 22 = .ok (.invokevirtual 124, 3) := by decide +kernel
theorem dX6_forcing_25 : decode cX6_forcing 25 = .ok (.ifCond .eq 10, 3) := by decide +kernel
theorem dX6_forcing_28 : decode cX6_forcing 28 = .ok (.iconst 1, 1) := by decide +kernel
theorem dX6_forcing_29 : decode cX6_forcing 29 = .ok (.iload 4, 2) := by decide +kernel
theorem dX6_forcing_31 : decode cX6_forcing 31 = .ok (.ishl, 1) := by decide +kernel
theorem dX6_forcing_32 : decode cX6_forcing 32 = .ok (.goto 4, 3) := by decide +kernel
theorem dX6_forcing_35 : decode cX6_forcing 35 = .ok (.iconst 0, 1) := by decide +kernel
theorem dX6_forcing_36 : decode cX6_forcing 36 = .ok (.ior, 1) := by decide +kernel
theorem dX6_forcing_37 : decode cX6_forcing 37 = .ok (.istore_n 3, 1) := by decide +kernel
theorem dX6_forcing_38 : decode cX6_forcing 38 = .ok (.iinc 4 1, 3) := by decide +kernel
theorem dX6_forcing_41 : decode cX6_forcing 41 = .ok (.goto (-36), 3) := by decide +kernel
theorem dX6_forcing_44 : decode cX6_forcing 44 = .ok (.iload_n 3, 1) := by decide +kernel
theorem dX6_forcing_45 : decode cX6_forcing 45 = .ok (.ireturn, 1) := by decide +kernel
theorem dX6_pulls_0 : decode cX6_pulls 0 = .ok (.iconst 0, 1) := by decide +kernel
theorem dX6_pulls_1 : decode cX6_pulls 1 = .ok (.istore_n 3, 1) := by decide +kernel
theorem dX6_pulls_2 : decode cX6_pulls 2 = .ok (.iload_n 3, 1) := by decide +kernel
theorem dX6_pulls_3 : decode cX6_pulls 3 = .ok (.aload_n 0, 1) := by decide +kernel
theorem dX6_pulls_4 : decode cX6_pulls 4 = .ok (.getfield 13, 3) := by decide +kernel
theorem dX6_pulls_7 : decode cX6_pulls 7 = .ok (.iconst 0, 1) := by decide +kernel
theorem dX6_pulls_8 : decode cX6_pulls 8 = .ok (.iaload, 1) := by decide +kernel
theorem dX6_pulls_9 : decode cX6_pulls 9 = .ok (.if_icmp .ge 28, 3) := by decide +kernel
theorem dX6_pulls_12 : decode cX6_pulls 12 = .ok (.aload_n 0, 1) := by decide +kernel
theorem dX6_pulls_13 : decode cX6_pulls 13 = .ok (.getfield 51, 3) := by decide +kernel
theorem dX6_pulls_16 : decode cX6_pulls 16 = .ok (.iload_n 3, 1) := by decide +kernel
theorem dX6_pulls_17 : decode cX6_pulls 17 = .ok (.iload_n 2, 1) := by decide +kernel
theorem dX6_pulls_18 : decode cX6_pulls 18 = .ok (.iload_n 3, 1) := by decide +kernel
theorem dX6_pulls_19 : decode cX6_pulls 19 = .ok (.invokestatic 102, 3) := by decide +kernel
theorem dX6_pulls_22 : decode cX6_pulls 22 = .ok (.ifCond .eq 7, 3) := by decide +kernel
theorem dX6_pulls_25 : decode cX6_pulls 25 = .ok (.iconst 0, 1) := by decide +kernel
theorem dX6_pulls_26 : decode cX6_pulls 26 = .ok (.goto 4, 3) := by decide +kernel
theorem dX6_pulls_29 : decode cX6_pulls 29 = .ok (.iconst (-1), 1) := by decide +kernel
theorem dX6_pulls_30 : decode cX6_pulls 30 = .ok (.iastore, 1) := by decide +kernel
theorem dX6_pulls_31 : decode cX6_pulls 31 = .ok (.iinc 3 1, 3) := by decide +kernel
theorem dX6_pulls_34 : decode cX6_pulls 34 = .ok (.goto (-32), 3) := by decide +kernel
theorem dX6_pulls_37 : decode cX6_pulls 37 = .ok (.iload_n 2, 1) := by decide +kernel
theorem dX6_pulls_38 : decode cX6_pulls 38 = .ok (.istore_n 3, 1) := by decide +kernel
theorem dX6_pulls_39 : decode cX6_pulls 39 = .ok (.iload_n 2, 1) := by decide +kernel
theorem dX6_pulls_40 : decode cX6_pulls 40 = .ok (.istore 4, 2) := by decide +kernel
theorem dX6_pulls_42 : decode cX6_pulls 42 = .ok (.iconst 1, 1) := by decide +kernel
theorem dX6_pulls_43 : decode cX6_pulls 43 = .ok (.istore 5, 2) := by decide +kernel
theorem dX6_pulls_45 : decode cX6_pulls 45 = .ok (.iload 4, 2) := by decide +kernel
theorem dX6_pulls_47 : decode cX6_pulls 47 = .ok (.ifCond .eq 75, 3) := by decide +kernel
theorem dX6_pulls_50 : decode cX6_pulls 50 = .ok (.aload_n 0, 1) := by decide +kernel
theorem dX6_pulls_51 : decode cX6_pulls 51 = .ok (.iload_n 1, 1) := by decide +kernel
theorem dX6_pulls_52 : decode cX6_pulls 52 = .ok (.iload_n 3, 1) := by decide +kernel
theorem dX6_pulls_53 : decode cX6_pulls 53 = .ok (.invokevirtual 127, 3) := by decide +kernel
theorem dX6_pulls_56 : decode cX6_pulls 56 = .ok (.iload_n 3, 1) := by decide +kernel
theorem dX6_pulls_57 : decode cX6_pulls 57 = .ok (.iconst (-1), 1) := by decide +kernel
theorem dX6_pulls_58 : decode cX6_pulls 58 = .ok (.ixor, 1) := by decide +kernel
theorem dX6_pulls_59 : decode cX6_pulls 59 = .ok (.iand, 1) := by decide +kernel
theorem dX6_pulls_60 : decode cX6_pulls 60 = .ok (.istore 4, 2) := by decide +kernel
theorem dX6_pulls_62 : decode cX6_pulls 62 = .ok (.iconst 0, 1) := by decide +kernel
theorem dX6_pulls_63 : decode cX6_pulls 63 = .ok (.istore 6, 2) := by decide +kernel
theorem dX6_pulls_65 : decode cX6_pulls 65 = .ok (.iload 6, 2) := by decide +kernel
theorem dX6_pulls_67 : decode cX6_pulls 67 = .ok (.aload_n 0, 1) := by decide +kernel
theorem dX6_pulls_68 : decode cX6_pulls 68 = .ok (.getfield 13, 3) := by decide +kernel
theorem dX6_pulls_71 : decode cX6_pulls 71 = .ok (.iconst 0, 1) := by decide +kernel
theorem dX6_pulls_72 : decode cX6_pulls 72 = .ok (.iaload, 1) := by decide +kernel
theorem dX6_pulls_73 : decode cX6_pulls 73 = .ok (.if_icmp .ge 38, 3) := by decide +kernel
theorem dX6_pulls_76 : decode cX6_pulls 76 = .ok (.aload_n 0, 1) := by decide +kernel
theorem dX6_pulls_77 : decode cX6_pulls 77 = .ok (.getfield 51, 3) := by decide +kernel
theorem dX6_pulls_80 : decode cX6_pulls 80 = .ok (.iload 6, 2) := by decide +kernel
theorem dX6_pulls_82 : decode cX6_pulls 82 = .ok (.iload 4, 2) := by decide +kernel
theorem dX6_pulls_84 : decode cX6_pulls 84 = .ok (.iload 6, 2) := by decide +kernel
theorem dX6_pulls_86 : decode cX6_pulls 86 = .ok (.invokestatic 102, 3) := by decide +kernel
theorem dX6_pulls_89 : decode cX6_pulls 89 = .ok (.ifCond .eq 8, 3) := by decide +kernel
theorem dX6_pulls_92 : decode cX6_pulls 92 = .ok (.iload 5, 2) := by decide +kernel
theorem dX6_pulls_94 : decode cX6_pulls 94 = .ok (.goto 10, 3) := by decide +kernel
theorem dX6_pulls_97 : decode cX6_pulls 97 = .ok (.aload_n 0, 1) := by decide +kernel
theorem dX6_pulls_98 : decode cX6_pulls 98 = .ok (.getfield 51, 3) := by decide +kernel
theorem dX6_pulls_101 : decode cX6_pulls 101 = .ok (.iload 6, 2) := by decide +kernel
theorem dX6_pulls_103 : decode cX6_pulls 103 = .ok (.iaload, 1) := by decide +kernel
theorem dX6_pulls_104 : decode cX6_pulls 104 = .ok (.iastore, 1) := by decide +kernel
theorem dX6_pulls_105 : decode cX6_pulls 105 = .ok (.iinc 6 1, 3) := by decide +kernel
theorem dX6_pulls_108 : decode cX6_pulls 108 = .ok (.goto (-43), 3) := by decide +kernel
theorem dX6_pulls_111 : decode cX6_pulls 111 = .ok (.iload_n 3, 1) := by decide +kernel
theorem dX6_pulls_112 : decode cX6_pulls 112 = .ok (.iload 4, 2) := by decide +kernel
theorem dX6_pulls_114 : decode cX6_pulls 114 = .ok (.ior, 1) := by decide +kernel
theorem dX6_pulls_115 : decode cX6_pulls 115 = .ok (.istore_n 3, 1) := by decide +kernel
theorem dX6_pulls_116 : decode cX6_pulls 116 = .ok (.iinc 5 1, 3) := by decide +kernel
theorem dX6_pulls_119 : decode cX6_pulls 119 = .ok (.goto (-74), 3) := by decide +kernel
theorem dX6_pulls_122 : decode cX6_pulls 122 = .ok (.iload_n 3, 1) := by decide +kernel
theorem dX6_pulls_123 : decode cX6_pulls 123 = .ok (.ireturn, 1) := by decide +kernel
theorem dX6_leaves_0 : decode cX6_leaves 0 = .ok (.iconst 0, 1) := by decide +kernel
theorem dX6_leaves_1 : decode cX6_leaves 1 = .ok (.istore 4, 2) := by decide +kernel
theorem dX6_leaves_3 : decode cX6_leaves 3 = .ok (.iconst 0, 1) := by decide +kernel
theorem dX6_leaves_4 : decode cX6_leaves 4 = .ok (.istore 5, 2) := by decide +kernel
theorem dX6_leaves_6 : decode cX6_leaves 6 = .ok (.iconst 0, 1) := by decide +kernel
theorem dX6_leaves_7 : decode cX6_leaves 7 = .ok (.istore 6, 2) := by decide +kernel
theorem dX6_leaves_9 : decode cX6_leaves 9 = .ok (.iload 6, 2) := by decide +kernel
theorem dX6_leaves_11 : decode cX6_leaves 11 = .ok (.aload_n 0, 1) := by decide +kernel
theorem dX6_leaves_12 : decode cX6_leaves 12 = .ok (.getfield 13, 3) := by decide +kernel
theorem dX6_leaves_15 : decode cX6_leaves 15 = .ok (.iconst 1, 1) := by decide +kernel
theorem dX6_leaves_16 : decode cX6_leaves 16 = .ok (.iaload, 1) := by decide +kernel
theorem dX6_leaves_17 : decode cX6_leaves 17 = .ok (.if_icmp .ge 53, 3) := by decide +kernel
theorem dX6_leaves_20 : decode cX6_leaves 20 = .ok (.aload_n 0, 1) := by decide +kernel
theorem dX6_leaves_21 : decode cX6_leaves 21 = .ok (.getfield 13, 3) := by decide +kernel
theorem dX6_leaves_24 : decode cX6_leaves 24 = .ok (.bipush 44, 2) := by decide +kernel
theorem dX6_leaves_26 : decode cX6_leaves 26 = .ok (.iload 6, 2) := by decide +kernel
theorem dX6_leaves_28 : decode cX6_leaves 28 = .ok (.iadd, 1) := by decide +kernel
theorem dX6_leaves_29 : decode cX6_leaves 29 = .ok (.iaload, 1) := by decide +kernel
theorem dX6_leaves_30 : decode cX6_leaves 30 = .ok (.iload_n 2, 1) := by decide +kernel
theorem dX6_leaves_31 : decode cX6_leaves 31 = .ok (.if_icmp .ne 33, 3) := by decide +kernel
theorem dX6_leaves_34 : decode cX6_leaves 34 = .ok (.iinc 4 1, 3) := by decide +kernel
theorem dX6_leaves_37 : decode cX6_leaves 37 = .ok (.iload 5, 2) := by decide +kernel
theorem dX6_leaves_39 : decode cX6_leaves 39 = .ok (.iload_n 3, 1) := by decide +kernel
theorem dX6_leaves_40 : decode cX6_leaves 40 = .ok (.aload_n 0, 1) := by decide +kernel
theorem dX6_leaves_41 : decode cX6_leaves 41 = .ok (.getfield 13, 3) := by decide +kernel
theorem dX6_leaves_44 : decode cX6_leaves 44 = .ok (.bipush 105, 2) := by decide +kernel
theorem dX6_leaves_46 : decode cX6_leaves 46 = .ok (.iload 6, 2) := by decide +kernel
theorem dX6_leaves_48 : decode cX6_leaves 48 = .ok (.iadd, 1) := by decide +kernel
theorem dX6_leaves_49 : decode cX6_leaves 49 = .ok (.iaload, 1) := by decide +kernel
theorem dX6_leaves_50 : decode cX6_leaves 50 = .ok (.invokestatic 102, 3) := by decide +kernel
theorem dX6_leaves_53 : decode cX6_leaves 53 = .ok (.ifCond .eq 7, 3) := by decide +kernel
theorem dX6_leaves_56 : decode cX6_leaves 56 = .ok (.iconst 0, 1) := by decide +kernel
theorem dX6_leaves_57 : decode cX6_leaves 57 = .ok (.goto 4, 3) := by decide +kernel
theorem dX6_leaves_60 : decode cX6_leaves 60 = .ok (.iconst 1, 1) := by decide +kernel
theorem dX6_leaves_61 : decode cX6_leaves 61 = .ok (.iadd, 1) := by decide +kernel
theorem dX6_leaves_62 : decode cX6_leaves 62 = .ok (.istore 5, 2) := by decide +kernel
theorem dX6_leaves_64 : decode cX6_leaves 64 = .ok (.iinc 6 1, 3) := by decide +kernel
theorem dX6_leaves_67 : decode cX6_leaves 67 = .ok (.goto (-58), 3) := by decide +kernel
theorem dX6_leaves_70 : decode cX6_leaves 70 = .ok (.aload_n 0, 1) := by decide +kernel
theorem dX6_leaves_71 : decode cX6_leaves 71 = .ok (.getfield 13, 3) := by decide +kernel
theorem dX6_leaves_74 : decode cX6_leaves 74 = .ok (.iconst 4, 1) := by decide +kernel
theorem dX6_leaves_75 : decode cX6_leaves 75 = .ok (.iload_n 2, 1) := by decide +kernel
theorem dX6_leaves_76 : decode cX6_leaves 76 = .ok (.iadd, 1) := by decide +kernel
theorem dX6_leaves_77 : decode cX6_leaves 77 = .ok (.iaload, 1) := by decide +kernel
theorem dX6_leaves_78 : decode cX6_leaves 78 = .ok (.iload_n 1, 1) := by decide +kernel
theorem dX6_leaves_79 : decode cX6_leaves 79 = .ok (.if_icmp .ne 23, 3) := by decide +kernel
theorem dX6_leaves_82 : decode cX6_leaves 82 = .ok (.iload 4, 2) := by decide +kernel
theorem dX6_leaves_84 : decode cX6_leaves 84 = .ok (.ifCond .le 14, 3) := by decide +kernel
theorem dX6_leaves_87 : decode cX6_leaves 87 = .ok (.iload 5, 2) := by decide +kernel
theorem dX6_leaves_89 : decode cX6_leaves 89 = .ok (.iload 4, 2) := by decide +kernel
theorem dX6_leaves_91 : decode cX6_leaves 91 = .ok (.if_icmp .ne 7, 3) := by decide +kernel
theorem dX6_leaves_94 : decode cX6_leaves 94 = .ok (.iconst 1, 1) := by decide +kernel
theorem dX6_leaves_95 : decode cX6_leaves 95 = .ok (.goto 17, 3) := by decide +kernel
theorem dX6_leaves_98 : decode cX6_leaves 98 = .ok (.iconst 0, 1) := by decide +kernel
theorem dX6_leaves_99 : decode cX6_leaves 99 = .ok (.goto 13, 3) := by decide +kernel
theorem dX6_leaves_102 : decode cX6_leaves 102 = .ok (.iload 5, 2) := by decide +kernel
theorem dX6_leaves_104 : decode cX6_leaves 104 = .ok (.ifCond .le 7, 3) := by decide +kernel
theorem dX6_leaves_107 : decode cX6_leaves 107 = .ok (.iconst 1, 1) := by decide +kernel
theorem dX6_leaves_108 : decode cX6_leaves 108 = .ok (.goto 4, 3) := by decide +kernel
theorem dX6_leaves_111 : decode cX6_leaves 111 = .ok (.iconst 0, 1) := by decide +kernel
theorem dX6_leaves_112 : decode cX6_leaves 112 = .ok (.ireturn, 1) := by decide +kernel
theorem dX6_stays_0 : decode cX6_stays 0 = .ok (.iload_n 2, 1) := by decide +kernel
theorem dX6_stays_1 : decode cX6_stays 1 = .ok (.istore_n 3, 1) := by decide +kernel
theorem dX6_stays_2 : decode cX6_stays 2 = .ok (.iconst (-1), 1) := by decide +kernel
theorem dX6_stays_3 : decode cX6_stays 3 = .ok (.istore 4, 2) := by decide +kernel
theorem dX6_stays_5 : decode cX6_stays 5 = .ok (.iload_n 3, 1) := by decide +kernel
theorem dX6_stays_6 : decode cX6_stays 6 = .ok (.iload 4, 2) := by decide +kernel
theorem dX6_stays_8 : decode cX6_stays 8 = .ok (.if_icmp .eq 59, 3) := by decide +kernel
theorem dX6_stays_11 : decode cX6_stays 11 = .ok (.iload_n 3, 1) := by decide +kernel
theorem dX6_stays_12 : decode cX6_stays 12 = .ok (.istore 4, 2) := by decide +kernel
theorem dX6_stays_14 : decode cX6_stays 14 = .ok (.iconst 0, 1) := by decide +kernel
theorem dX6_stays_15 : decode cX6_stays 15 = .ok (.istore 5, 2) := by decide +kernel
theorem dX6_stays_17 : decode cX6_stays 17 = .ok (.iload 5, 2) := by decide +kernel
theorem dX6_stays_19 : decode cX6_stays 19 = .ok (.aload_n 0, 1) := by decide +kernel
theorem dX6_stays_20 : decode cX6_stays 20 = .ok (.getfield 13, 3) := by decide +kernel
theorem dX6_stays_23 : decode cX6_stays 23 = .ok (.iconst 0, 1) := by decide +kernel
theorem dX6_stays_24 : decode cX6_stays 24 = .ok (.iaload, 1) := by decide +kernel
theorem dX6_stays_25 : decode cX6_stays 25 = .ok (.if_icmp .ge 39, 3) := by decide +kernel
theorem dX6_stays_28 : decode cX6_stays 28 = .ok (.iload_n 3, 1) := by decide +kernel
theorem dX6_stays_29 : decode cX6_stays 29 = .ok (.iload 5, 2) := by decide +kernel
theorem dX6_stays_31 : decode cX6_stays 31 = .ok (.invokestatic 102, 3) := by decide +kernel
theorem dX6_stays_34 : decode cX6_stays 34 = .ok (.ifCond .eq 24, 3) := by decide +kernel
theorem dX6_stays_37 : decode cX6_stays 37 = .ok (.aload_n 0, 1) := by decide +kernel
theorem dX6_stays_38 : decode cX6_stays 38 = .ok (.iload_n 1, 1) := by decide +kernel
theorem dX6_stays_39 : decode cX6_stays 39 = .ok (.iload 5, 2) := by decide +kernel
theorem dX6_stays_41 : decode cX6_stays 41 = .ok (.iload 4, 2) := by decide +kernel
theorem dX6_stays_43 : decode cX6_stays 43 = .ok (.invokevirtual 130, 3) := by decide +kernel
theorem dX6_stays_46 : decode cX6_stays 46 = .ok (.ifCond .eq 12, 3) := by decide +kernel
theorem dX6_stays_49 : decode cX6_stays 49 = .ok (.iload_n 3, 1) := by decide +kernel
theorem dX6_stays_50 : decode cX6_stays 50 = .ok (.iconst 1, 1) := by decide +kernel
theorem dX6_stays_51 : decode cX6_stays 51 = .ok (.iload 5, 2) := by decide +kernel
theorem dX6_stays_53 : decode cX6_stays 53 = .ok (.ishl, 1) := by decide +kernel
theorem dX6_stays_54 : decode cX6_stays 54 = .ok (.iconst (-1), 1) := by decide +kernel
theorem dX6_stays_55 : decode cX6_stays 55 = .ok (.ixor, 1) := by decide +kernel
theorem dX6_stays_56 : decode cX6_stays 56 = .ok (.iand, 1) := by decide +kernel
theorem dX6_stays_57 : decode cX6_stays 57 = .ok (.istore_n 3, 1) := by decide +kernel
theorem dX6_stays_58 : decode cX6_stays 58 = .ok (.iinc 5 1, 3) := by decide +kernel
theorem dX6_stays_61 : decode cX6_stays 61 = .ok (.goto (-44), 3) := by decide +kernel
theorem dX6_stays_64 : decode cX6_stays 64 = .ok (.goto (-59), 3) := by decide +kernel
theorem dX6_stays_67 : decode cX6_stays 67 = .ok (.iload_n 3, 1) := by decide +kernel
theorem dX6_stays_68 : decode cX6_stays 68 = .ok (.ireturn, 1) := by decide +kernel
theorem dX6_comesBack_0 : decode cX6_comesBack 0 = .ok (.aload_n 0, 1) := by decide +kernel
theorem dX6_comesBack_1 : decode cX6_comesBack 1 = .ok (.invokevirtual 99, 3) := by decide +kernel
theorem dX6_comesBack_4 : decode cX6_comesBack 4 = .ok (.istore_n 3, 1) := by decide +kernel
theorem dX6_comesBack_5 : decode cX6_comesBack 5 = .ok (.iconst (-1), 1) := by decide +kernel
theorem dX6_comesBack_6 : decode cX6_comesBack 6 = .ok (.istore 4, 2) := by decide +kernel
theorem dX6_comesBack_8 : decode cX6_comesBack 8 = .ok (.iload_n 3, 1) := by decide +kernel
theorem dX6_comesBack_9 : decode cX6_comesBack 9 = .ok (.iload 4, 2) := by decide +kernel
theorem dX6_comesBack_11 : decode cX6_comesBack 11 = .ok (.if_icmp .eq 27, 3) := by decide +kernel
theorem dX6_comesBack_14 : decode cX6_comesBack 14 = .ok (.iload_n 3, 1) := by decide +kernel
theorem dX6_comesBack_15 : decode cX6_comesBack 15 = .ok (.istore 4, 2) := by decide +kernel
theorem dX6_comesBack_17 : decode cX6_comesBack 17 = .ok (.aload_n 0, 1) := by decide +kernel
theorem dX6_comesBack_18 : decode cX6_comesBack 18 = .ok (.iload_n 1, 1) := by decide +kernel
theorem dX6_comesBack_19 : decode cX6_comesBack 19 = .ok (.iload_n 2, 1) := by decide +kernel
theorem dX6_comesBack_20 : decode cX6_comesBack 20 = .ok (.aload_n 0, 1) := by decide +kernel
theorem dX6_comesBack_21 : decode cX6_comesBack 21 = .ok (.iload_n 1, 1) := by decide +kernel
theorem dX6_comesBack_22 : decode cX6_comesBack 22 = .ok (.iload 4, 2) := by decide +kernel
theorem dX6_comesBack_24 : decode cX6_comesBack 24 = .ok (.invokevirtual 127, 3) := by decide +kernel
theorem dX6_comesBack_27 : decode cX6_comesBack 27 = .ok (.iand, 1) := by decide +kernel
theorem dX6_comesBack_28 : decode cX6_comesBack 28 = .ok (.invokevirtual 133, 3) := by decide +kernel
theorem dX6_comesBack_31 : decode cX6_comesBack 31 = .ok (.iload 4, 2) := by decide +kernel
theorem dX6_comesBack_33 : decode cX6_comesBack 33 = .ok (.iand, 1) := by decide +kernel
theorem dX6_comesBack_34 : decode cX6_comesBack 34 = .ok (.istore_n 3, 1) := by decide +kernel
theorem dX6_comesBack_35 : decode cX6_comesBack 35 = .ok (.goto (-27), 3) := by decide +kernel
theorem dX6_comesBack_38 : decode cX6_comesBack 38 = .ok (.iload_n 3, 1) := by decide +kernel
theorem dX6_comesBack_39 : decode cX6_comesBack 39 = .ok (.ireturn, 1) := by decide +kernel
theorem dX6_remembers_0 : decode cX6_remembers 0 = .ok (.aload_n 0, 1) := by decide +kernel
theorem dX6_remembers_1 : decode cX6_remembers 1 = .ok (.getfield 136, 3) := by decide +kernel
theorem dX6_remembers_4 : decode cX6_remembers 4 = .ok (.bipush 10, 2) := by decide +kernel
theorem dX6_remembers_6 : decode cX6_remembers 6 = .ok (.if_icmp .ne 46, 3) := by decide +kernel
theorem dX6_remembers_9 : decode cX6_remembers 9 = .ok (.sipush 176, 3) := by decide +kernel
theorem dX6_remembers_12 : decode cX6_remembers 12 = .ok (.istore_n 1, 1) := by decide +kernel
theorem dX6_remembers_13 : decode cX6_remembers 13 = .ok (.iload_n 1, 1) := by decide +kernel
theorem dX6_remembers_14 : decode cX6_remembers 14 = .ok (.sipush 1760, 3) := by decide +kernel
theorem dX6_remembers_17 : decode cX6_remembers 17 = .ok (.if_icmp .ge 25, 3) := by decide +kernel
theorem dX6_remembers_20 : decode cX6_remembers 20 = .ok (.aload_n 0, 1) := by decide +kernel
theorem dX6_remembers_21 : decode cX6_remembers 21 = .ok (.getfield 19, 3) := by decide +kernel
theorem dX6_remembers_24 : decode cX6_remembers 24 = .ok (.iload_n 1, 1) := by decide +kernel
theorem dX6_remembers_25 : decode cX6_remembers 25 = .ok (.sipush 176, 3) := by decide +kernel
theorem dX6_remembers_28 : decode cX6_remembers 28 = .ok (.isub, 1) := by decide +kernel
theorem dX6_remembers_29 : decode cX6_remembers 29 = .ok (.aload_n 0, 1) := by decide +kernel
theorem dX6_remembers_30 : decode cX6_remembers 30 = .ok (.getfield 19, 3) := by decide +kernel
theorem dX6_remembers_33 : decode cX6_remembers 33 = .ok (.iload_n 1, 1) := by decide +kernel
theorem dX6_remembers_34 : decode cX6_remembers 34 = .ok (.iaload, 1) := by decide +kernel
theorem dX6_remembers_35 : decode cX6_remembers 35 = .ok (.iastore, 1) := by decide +kernel
theorem dX6_remembers_36 : decode cX6_remembers 36 = .ok (.iinc 1 1, 3) := by decide +kernel
theorem dX6_remembers_39 : decode cX6_remembers 39 = .ok (.goto (-26), 3) := by decide +kernel
theorem dX6_remembers_42 : decode cX6_remembers 42 = .ok (.aload_n 0, 1) := by decide +kernel
theorem dX6_remembers_43 : decode cX6_remembers 43 = .ok (.dup, 1) := by decide +kernel
theorem dX6_remembers_44 : decode cX6_remembers 44 = .ok (.getfield 136, 3) := by decide +kernel
theorem dX6_remembers_47 : decode cX6_remembers 47 = .ok (.iconst 1, 1) := by decide +kernel
theorem dX6_remembers_48 : decode cX6_remembers 48 = .ok (.isub, 1) := by decide +kernel
theorem dX6_remembers_49 : decode cX6_remembers 49 = .ok (.putfield 136, 3) := by decide +kernel
theorem dX6_remembers_52 : decode cX6_remembers 52 = .ok (.iconst 0, 1) := by decide +kernel
theorem dX6_remembers_53 : decode cX6_remembers 53 = .ok (.istore_n 1, 1) := by decide +kernel
theorem dX6_remembers_54 : decode cX6_remembers 54 = .ok (.iload_n 1, 1) := by decide +kernel
theorem dX6_remembers_55 : decode cX6_remembers 55 = .ok (.sipush 176, 3) := by decide +kernel
theorem dX6_remembers_58 : decode cX6_remembers 58 = .ok (.if_icmp .ge 30, 3) := by decide +kernel
theorem dX6_remembers_61 : decode cX6_remembers 61 = .ok (.aload_n 0, 1) := by decide +kernel
theorem dX6_remembers_62 : decode cX6_remembers 62 = .ok (.getfield 19, 3) := by decide +kernel
theorem dX6_remembers_65 : decode cX6_remembers 65 = .ok (.aload_n 0, 1) := by decide +kernel
theorem dX6_remembers_66 : decode cX6_remembers 66 = .ok (.getfield 136, 3) := by decide +kernel
theorem dX6_remembers_69 : decode cX6_remembers 69 = .ok (.sipush 176, 3) := by decide +kernel
theorem dX6_remembers_72 : decode cX6_remembers 72 = .ok (.imul, 1) := by decide +kernel
theorem dX6_remembers_73 : decode cX6_remembers 73 = .ok (.iload_n 1, 1) := by decide +kernel
theorem dX6_remembers_74 : decode cX6_remembers 74 = .ok (.iadd, 1) := by decide +kernel
theorem dX6_remembers_75 : decode cX6_remembers 75 = .ok (.aload_n 0, 1) := by decide +kernel
theorem dX6_remembers_76 : decode cX6_remembers 76 = .ok (.getfield 13, 3) := by decide +kernel
theorem dX6_remembers_79 : decode cX6_remembers 79 = .ok (.iload_n 1, 1) := by decide +kernel
theorem dX6_remembers_80 : decode cX6_remembers 80 = .ok (.iaload, 1) := by decide +kernel
theorem dX6_remembers_81 : decode cX6_remembers 81 = .ok (.iastore, 1) := by decide +kernel
theorem dX6_remembers_82 : decode cX6_remembers 82 = .ok (.iinc 1 1, 3) := by decide +kernel
theorem dX6_remembers_85 : decode cX6_remembers 85 = .ok (.goto (-31), 3) := by decide +kernel
theorem dX6_remembers_88 : decode cX6_remembers 88 = .ok (.aload_n 0, 1) := by decide +kernel
theorem dX6_remembers_89 : decode cX6_remembers 89 = .ok (.dup, 1) := by decide +kernel
theorem dX6_remembers_90 : decode cX6_remembers 90 = .ok (.getfield 136, 3) := by decide +kernel
theorem dX6_remembers_93 : decode cX6_remembers 93 = .ok (.iconst 1, 1) := by decide +kernel
theorem dX6_remembers_94 : decode cX6_remembers 94 = .ok (.iadd, 1) := by decide +kernel
theorem dX6_remembers_95 : decode cX6_remembers 95 = .ok (.putfield 136, 3) := by decide +kernel
theorem dX6_remembers_98 : decode cX6_remembers 98 = .ok (.return_, 1) := by decide +kernel
theorem dX6_putsAside_0 : decode cX6_putsAside 0 = .ok (.iconst 0, 1) := by decide +kernel
theorem dX6_putsAside_1 : decode cX6_putsAside 1 = .ok (.istore_n 1, 1) := by decide +kernel
theorem dX6_putsAside_2 : decode cX6_putsAside 2 = .ok (.iload_n 1, 1) := by decide +kernel
theorem dX6_putsAside_3 : decode cX6_putsAside 3 = .ok (.sipush 176, 3) := by decide +kernel
theorem dX6_putsAside_6 : decode cX6_putsAside 6 = .ok (.if_icmp .ge 21, 3) := by decide +kernel
theorem dX6_putsAside_9 : decode cX6_putsAside 9 = .ok (.aload_n 0, 1) := by decide +kernel
theorem dX6_putsAside_10 : decode cX6_putsAside 10 = .ok (.getfield 16, 3) := by decide +kernel
theorem dX6_putsAside_13 : decode cX6_putsAside 13 = .ok (.iload_n 1, 1) := by decide +kernel
theorem dX6_putsAside_14 : decode cX6_putsAside 14 = .ok (.aload_n 0, 1) := by decide +kernel
theorem dX6_putsAside_15 : decode cX6_putsAside 15 = .ok (.getfield 13, 3) := by decide +kernel
theorem dX6_putsAside_18 : decode cX6_putsAside 18 = .ok (.iload_n 1, 1) := by decide +kernel
theorem dX6_putsAside_19 : decode cX6_putsAside 19 = .ok (.iaload, 1) := by decide +kernel
theorem dX6_putsAside_20 : decode cX6_putsAside 20 = .ok (.iastore, 1) := by decide +kernel
theorem dX6_putsAside_21 : decode cX6_putsAside 21 = .ok (.iinc 1 1, 3) := by decide +kernel
theorem dX6_putsAside_24 : decode cX6_putsAside 24 = .ok (.goto (-22), 3) := by decide +kernel
theorem dX6_putsAside_27 : decode cX6_putsAside 27 = .ok (.return_, 1) := by decide +kernel
theorem dX6_putsBack_0 : decode cX6_putsBack 0 = .ok (.iconst 0, 1) := by decide +kernel
theorem dX6_putsBack_1 : decode cX6_putsBack 1 = .ok (.istore_n 1, 1) := by decide +kernel
theorem dX6_putsBack_2 : decode cX6_putsBack 2 = .ok (.iload_n 1, 1) := by decide +kernel
theorem dX6_putsBack_3 : decode cX6_putsBack 3 = .ok (.sipush 176, 3) := by decide +kernel
theorem dX6_putsBack_6 : decode cX6_putsBack 6 = .ok (.if_icmp .ge 21, 3) := by decide +kernel
theorem dX6_putsBack_9 : decode cX6_putsBack 9 = .ok (.aload_n 0, 1) := by decide +kernel
theorem dX6_putsBack_10 : decode cX6_putsBack 10 = .ok (.getfield 13, 3) := by decide +kernel
theorem dX6_putsBack_13 : decode cX6_putsBack 13 = .ok (.iload_n 1, 1) := by decide +kernel
theorem dX6_putsBack_14 : decode cX6_putsBack 14 = .ok (.aload_n 0, 1) := by decide +kernel
theorem dX6_putsBack_15 : decode cX6_putsBack 15 = .ok (.getfield 16, 3) := by decide +kernel
theorem dX6_putsBack_18 : decode cX6_putsBack 18 = .ok (.iload_n 1, 1) := by decide +kernel
theorem dX6_putsBack_19 : decode cX6_putsBack 19 = .ok (.iaload, 1) := by decide +kernel
theorem dX6_putsBack_20 : decode cX6_putsBack 20 = .ok (.iastore, 1) := by decide +kernel
theorem dX6_putsBack_21 : decode cX6_putsBack 21 = .ok (.iinc 1 1, 3) := by decide +kernel
theorem dX6_putsBack_24 : decode cX6_putsBack 24 = .ok (.goto (-22), 3) := by decide +kernel
theorem dX6_putsBack_27 : decode cX6_putsBack 27 = .ok (.return_, 1) := by decide +kernel
theorem dX6_isLetter_0 : decode cX6_isLetter 0 = .ok (.iload_n 0, 1) := by decide +kernel
theorem dX6_isLetter_1 : decode cX6_isLetter 1 = .ok (.bipush 97, 2) := by decide +kernel
theorem dX6_isLetter_3 : decode cX6_isLetter 3 = .ok (.if_icmp .lt 13, 3) := by decide +kernel
theorem dX6_isLetter_6 : decode cX6_isLetter 6 = .ok (.iload_n 0, 1) := by decide +kernel
theorem dX6_isLetter_7 : decode cX6_isLetter 7 = .ok (.bipush 122, 2) := by decide +kernel
theorem dX6_isLetter_9 : decode cX6_isLetter 9 = .ok (.if_icmp .gt 7, 3) := by decide +kernel
theorem dX6_isLetter_12 : decode cX6_isLetter 12 = .ok (.iconst 1, 1) := by decide +kernel
theorem dX6_isLetter_13 : decode cX6_isLetter 13 = .ok (.goto 4, 3) := by decide +kernel
theorem dX6_isLetter_16 : decode cX6_isLetter 16 = .ok (.iconst 0, 1) := by decide +kernel
theorem dX6_isLetter_17 : decode cX6_isLetter 17 = .ok (.ireturn, 1) := by decide +kernel
theorem dX6_isDigit_0 : decode cX6_isDigit 0 = .ok (.iload_n 0, 1) := by decide +kernel
theorem dX6_isDigit_1 : decode cX6_isDigit 1 = .ok (.bipush 48, 2) := by decide +kernel
theorem dX6_isDigit_3 : decode cX6_isDigit 3 = .ok (.if_icmp .lt 13, 3) := by decide +kernel
theorem dX6_isDigit_6 : decode cX6_isDigit 6 = .ok (.iload_n 0, 1) := by decide +kernel
theorem dX6_isDigit_7 : decode cX6_isDigit 7 = .ok (.bipush 57, 2) := by decide +kernel
theorem dX6_isDigit_9 : decode cX6_isDigit 9 = .ok (.if_icmp .gt 7, 3) := by decide +kernel
theorem dX6_isDigit_12 : decode cX6_isDigit 12 = .ok (.iconst 1, 1) := by decide +kernel
theorem dX6_isDigit_13 : decode cX6_isDigit 13 = .ok (.goto 4, 3) := by decide +kernel
theorem dX6_isDigit_16 : decode cX6_isDigit 16 = .ok (.iconst 0, 1) := by decide +kernel
theorem dX6_isDigit_17 : decode cX6_isDigit 17 = .ok (.ireturn, 1) := by decide +kernel
theorem dX6_next_0 : decode cX6_next 0 = .ok (.aload_n 0, 1) := by decide +kernel
theorem dX6_next_1 : decode cX6_next 1 = .ok (.getfield 139, 3) := by decide +kernel
theorem dX6_next_4 : decode cX6_next 4 = .ok (.iconst 1, 1) := by decide +kernel
theorem dX6_next_5 : decode cX6_next 5 = .ok (.if_icmp .eq 11, 3) := by decide +kernel
theorem dX6_next_8 : decode cX6_next 8 = .ok (.aload_n 0, 1) := by decide +kernel
theorem dX6_next_9 : decode cX6_next 9 = .ok (.getfield 139, 3) := by decide +kernel
theorem dX6_next_12 : decode cX6_next 12 = .ok (.iconst 2, 1) := by decide +kernel
theorem dX6_next_13 : decode cX6_next 13 = .ok (.if_icmp .ne 7, 3) := by decide +kernel
theorem dX6_next_16 : decode cX6_next 16 = .ok (.iconst 1, 1) := by decide +kernel
theorem dX6_next_17 : decode cX6_next 17 = .ok (.goto 4, 3) := by decide +kernel
theorem dX6_next_20 : decode cX6_next 20 = .ok (.iconst 0, 1) := by decide +kernel
theorem dX6_next_21 : decode cX6_next 21 = .ok (.istore_n 1, 1) := by decide +kernel
theorem dX6_next_22 : decode cX6_next 22 = .ok (.aload_n 0, 1) := by decide +kernel
theorem dX6_next_23 : decode cX6_next 23 = .ok (.aload_n 0, 1) := by decide +kernel
theorem dX6_next_24 : decode cX6_next 24 = .ok (.getfield 142, 3) := by decide +kernel
theorem dX6_next_27 : decode cX6_next 27 = .ok (.putfield 145, 3) := by decide +kernel
theorem dX6_next_30 : decode cX6_next 30 = .ok (.aload_n 0, 1) := by decide +kernel
theorem dX6_next_31 : decode cX6_next 31 = .ok (.getfield 145, 3) := by decide +kernel
theorem dX6_next_34 : decode cX6_next 34 = .ok (.aload_n 0, 1) := by decide +kernel
theorem dX6_next_35 : decode cX6_next 35 = .ok (.getfield 148, 3) := by decide +kernel
theorem dX6_next_38 : decode cX6_next 38 = .ok (.if_icmp .ge 44, 3) := by decide +kernel
theorem dX6_next_41 : decode cX6_next 41 = .ok (.aload_n 0, 1) := by decide +kernel
theorem dX6_next_42 : decode cX6_next 42 = .ok (.getfield 25, 3) := by decide +kernel
theorem dX6_next_45 : decode cX6_next 45 = .ok (.aload_n 0, 1) := by decide +kernel
theorem dX6_next_46 : decode cX6_next 46 = .ok (.getfield 145, 3) := by decide +kernel
theorem dX6_next_49 : decode cX6_next 49 = .ok (.baload, 1) := by decide +kernel
theorem dX6_next_50 : decode cX6_next 50 = .ok (.bipush 32, 2) := by decide +kernel
theorem dX6_next_52 : decode cX6_next 52 = .ok (.if_icmp .eq 17, 3) := by decide +kernel
theorem dX6_next_55 : decode cX6_next 55 = .ok (.aload_n 0, 1) := by decide +kernel
theorem dX6_next_56 : decode cX6_next 56 = .ok (.getfield 25, 3) := by decide +kernel
theorem dX6_next_59 : decode cX6_next 59 = .ok (.aload_n 0, 1) := by decide +kernel
theorem dX6_next_60 : decode cX6_next 60 = .ok (.getfield 145, 3) := by decide +kernel
theorem dX6_next_63 : decode cX6_next 63 = .ok (.baload, 1) := by decide +kernel
theorem dX6_next_64 : decode cX6_next 64 = .ok (.bipush 10, 2) := by decide +kernel
theorem dX6_next_66 : decode cX6_next 66 = .ok (.if_icmp .ne 16, 3) := by decide +kernel
theorem dX6_next_69 : decode cX6_next 69 = .ok (.aload_n 0, 1) := by decide +kernel
theorem dX6_next_70 : decode cX6_next 70 = .ok (.dup, 1) := by decide +kernel
theorem dX6_next_71 : decode cX6_next 71 = .ok (.getfield 145, 3) := by decide +kernel
theorem dX6_next_74 : decode cX6_next 74 = .ok (.iconst 1, 1) := by decide +kernel
theorem dX6_next_75 : decode cX6_next 75 = .ok (.iadd, 1) := by decide +kernel
theorem dX6_next_76 : decode cX6_next 76 = .ok (.putfield 145, 3) := by decide +kernel
theorem dX6_next_79 : decode cX6_next 79 = .ok (.goto (-49), 3) := by decide +kernel
theorem dX6_next_82 : decode cX6_next 82 = .ok (.iload_n 1, 1) := by decide +kernel
theorem dX6_next_83 : decode cX6_next 83 = .ok (.ifCond .eq 18, 3) := by decide +kernel
theorem dX6_next_86 : decode cX6_next 86 = .ok (.aload_n 0, 1) := by decide +kernel
theorem dX6_next_87 : decode cX6_next 87 = .ok (.getfield 145, 3) := by decide +kernel
theorem dX6_next_90 : decode cX6_next 90 = .ok (.aload_n 0, 1) := by decide +kernel
theorem dX6_next_91 : decode cX6_next 91 = .ok (.getfield 142, 3) := by decide +kernel
theorem dX6_next_94 : decode cX6_next 94 = .ok (.if_icmp .ne 7, 3) := by decide +kernel
theorem dX6_next_97 : decode cX6_next 97 = .ok (.iconst 1, 1) := by decide +kernel
theorem dX6_next_98 : decode cX6_next 98 = .ok (.goto 4, 3) := by decide +kernel
theorem dX6_next_101 : decode cX6_next 101 = .ok (.iconst 0, 1) := by decide +kernel
theorem dX6_next_102 : decode cX6_next 102 = .ok (.istore_n 2, 1) := by decide +kernel
theorem dX6_next_103 : decode cX6_next 103 = .ok (.aload_n 0, 1) := by decide +kernel
theorem dX6_next_104 : decode cX6_next 104 = .ok (.aload_n 0, 1) := by decide +kernel
theorem dX6_next_105 : decode cX6_next 105 = .ok (.getfield 145, 3) := by decide +kernel
theorem dX6_next_108 : decode cX6_next 108 = .ok (.putfield 142, 3) := by decide +kernel
theorem dX6_next_111 : decode cX6_next 111 = .ok (.aload_n 0, 1) := by decide +kernel
theorem dX6_next_112 : decode cX6_next 112 = .ok (.getfield 145, 3) := by decide +kernel
theorem dX6_next_115 : decode cX6_next 115 = .ok (.aload_n 0, 1) := by decide +kernel
theorem dX6_next_116 : decode cX6_next 116 = .ok (.getfield 148, 3) := by decide +kernel
theorem dX6_next_119 : decode cX6_next 119 = .ok (.if_icmp .ne 11, 3) := by decide +kernel
theorem dX6_next_122 : decode cX6_next 122 = .ok (.aload_n 0, 1) := by decide +kernel
theorem dX6_next_123 : decode cX6_next 123 = .ok (.iconst 0, 1) := by decide +kernel
theorem dX6_next_124 : decode cX6_next 124 = .ok (.putfield 139, 3) := by decide +kernel
theorem dX6_next_127 : decode cX6_next 127 = .ok (.goto 231, 3) := by decide +kernel
theorem dX6_next_130 : decode cX6_next 130 = .ok (.aload_n 0, 1) := by decide +kernel
theorem dX6_next_131 : decode cX6_next 131 = .ok (.getfield 25, 3) := by decide +kernel
theorem dX6_next_134 : decode cX6_next 134 = .ok (.aload_n 0, 1) := by decide +kernel
theorem dX6_next_135 : decode cX6_next 135 = .ok (.getfield 145, 3) := by decide +kernel
theorem dX6_next_138 : decode cX6_next 138 = .ok (.baload, 1) := by decide +kernel
theorem dX6_next_139 : decode cX6_next 139 = .ok (.invokestatic 151, 3) := by decide +kernel
theorem dX6_next_142 : decode cX6_next 142 = .ok (.ifCond .eq 58, 3) := by decide +kernel
theorem dX6_next_145 : decode cX6_next 145 = .ok (.aload_n 0, 1) := by decide +kernel
theorem dX6_next_146 : decode cX6_next 146 = .ok (.getfield 142, 3) := by decide +kernel
theorem dX6_next_149 : decode cX6_next 149 = .ok (.aload_n 0, 1) := by decide +kernel
theorem dX6_next_150 : decode cX6_next 150 = .ok (.getfield 148, 3) := by decide +kernel
theorem dX6_next_153 : decode cX6_next 153 = .ok (.if_icmp .ge 31, 3) := by decide +kernel
theorem dX6_next_156 : decode cX6_next 156 = .ok (.aload_n 0, 1) := by decide +kernel
theorem dX6_next_157 : decode cX6_next 157 = .ok (.getfield 25, 3) := by decide +kernel
theorem dX6_next_160 : decode cX6_next 160 = .ok (.aload_n 0, 1) := by decide +kernel
theorem dX6_next_161 : decode cX6_next 161 = .ok (.getfield 142, 3) := by decide +kernel
theorem dX6_next_164 : decode cX6_next 164 = .ok (.baload, 1) := by decide +kernel
theorem dX6_next_165 : decode cX6_next 165 = .ok (.invokestatic 151, 3) := by decide +kernel
theorem dX6_next_168 : decode cX6_next 168 = .ok (.ifCond .eq 16, 3) := by decide +kernel
theorem dX6_next_171 : decode cX6_next 171 = .ok (.aload_n 0, 1) := by decide +kernel
theorem dX6_next_172 : decode cX6_next 172 = .ok (.dup, 1) := by decide +kernel
theorem dX6_next_173 : decode cX6_next 173 = .ok (.getfield 142, 3) := by decide +kernel
theorem dX6_next_176 : decode cX6_next 176 = .ok (.iconst 1, 1) := by decide +kernel
theorem dX6_next_177 : decode cX6_next 177 = .ok (.iadd, 1) := by decide +kernel
theorem dX6_next_178 : decode cX6_next 178 = .ok (.putfield 142, 3) := by decide +kernel
theorem dX6_next_181 : decode cX6_next 181 = .ok (.goto (-36), 3) := by decide +kernel
theorem dX6_next_184 : decode cX6_next 184 = .ok (.aload_n 0, 1) := by decide +kernel
theorem dX6_next_185 : decode cX6_next 185 = .ok (.iload_n 2, 1) := by decide +kernel
theorem dX6_next_186 : decode cX6_next 186 = .ok (.ifCond .eq 7, 3) := by decide +kernel
theorem dX6_next_189 : decode cX6_next 189 = .ok (.iconst 4, 1) := by decide +kernel
theorem dX6_next_190 : decode cX6_next 190 = .ok (.goto 4, 3) := by decide +kernel
theorem dX6_next_193 : decode cX6_next 193 = .ok (.iconst 1, 1) := by decide +kernel
theorem dX6_next_194 : decode cX6_next 194 = .ok (.putfield 139, 3) := by decide +kernel
theorem dX6_next_197 : decode cX6_next 197 = .ok (.goto 161, 3) := by decide +kernel
theorem dX6_next_200 : decode cX6_next 200 = .ok (.aload_n 0, 1) := by decide +kernel
theorem dX6_next_201 : decode cX6_next 201 = .ok (.getfield 25, 3) := by decide +kernel
theorem dX6_next_204 : decode cX6_next 204 = .ok (.aload_n 0, 1) := by decide +kernel
theorem dX6_next_205 : decode cX6_next 205 = .ok (.getfield 145, 3) := by decide +kernel
theorem dX6_next_208 : decode cX6_next 208 = .ok (.baload, 1) := by decide +kernel
theorem dX6_next_209 : decode cX6_next 209 = .ok (.invokestatic 155, 3) := by decide +kernel
theorem dX6_next_212 : decode cX6_next 212 = .ok (.ifCond .eq 113, 3) := by decide +kernel
theorem dX6_next_215 : decode cX6_next 215 = .ok (.aload_n 0, 1) := by decide +kernel
theorem dX6_next_216 : decode cX6_next 216 = .ok (.iconst 0, 1) := by decide +kernel
theorem dX6_next_217 : decode cX6_next 217 = .ok (.putfield 158, 3) := by decide +kernel
theorem dX6_next_220 : decode cX6_next 220 = .ok (.aload_n 0, 1) := by decide +kernel
theorem dX6_next_221 : decode cX6_next 221 = .ok (.getfield 142, 3) := by decide +kernel
theorem dX6_next_224 : decode cX6_next 224 = .ok (.aload_n 0, 1) := by decide +kernel
theorem dX6_next_225 : decode cX6_next 225 = .ok (.getfield 148, 3) := by decide +kernel
theorem dX6_next_228 : decode cX6_next 228 = .ok (.if_icmp .ge 68, 3) := by decide +kernel
theorem dX6_next_231 : decode cX6_next 231 = .ok (.aload_n 0, 1) := by decide +kernel
theorem dX6_next_232 : decode cX6_next 232 = .ok (.getfield 25, 3) := by decide +kernel
theorem dX6_next_235 : decode cX6_next 235 = .ok (.aload_n 0, 1) := by decide +kernel
theorem dX6_next_236 : decode cX6_next 236 = .ok (.getfield 142, 3) := by decide +kernel
theorem dX6_next_239 : decode cX6_next 239 = .ok (.baload, 1) := by decide +kernel
theorem dX6_next_240 : decode cX6_next 240 = .ok (.invokestatic 155, 3) := by decide +kernel
theorem dX6_next_243 : decode cX6_next 243 = .ok (.ifCond .eq 53, 3) := by decide +kernel
theorem dX6_next_246 : decode cX6_next 246 = .ok (.aload_n 0, 1) := by decide +kernel
theorem dX6_next_247 : decode cX6_next 247 = .ok (.getfield 142, 3) := by decide +kernel
theorem dX6_next_250 : decode cX6_next 250 = .ok (.aload_n 0, 1) := by decide +kernel
theorem dX6_next_251 : decode cX6_next 251 = .ok (.getfield 145, 3) := by decide +kernel
theorem dX6_next_254 : decode cX6_next 254 = .ok (.isub, 1) := by decide +kernel
theorem dX6_next_255 : decode cX6_next 255 = .ok (.iconst 3, 1) := by decide +kernel
theorem dX6_next_256 : decode cX6_next 256 = .ok (.if_icmp .ge 27, 3) := by decide +kernel
theorem dX6_next_259 : decode cX6_next 259 = .ok (.aload_n 0, 1) := by decide +kernel
theorem dX6_next_260 : decode cX6_next 260 = .ok (.bipush 10, 2) := by decide +kernel
theorem dX6_next_262 : decode cX6_next 262 = .ok (.aload_n 0, 1) := by decide +kernel
theorem dX6_next_263 : decode cX6_next 263 = .ok (.getfield 158, 3) := by decide +kernel
theorem dX6_next_266 : decode cX6_next 266 = .ok (.imul, 1) := by decide +kernel
theorem dX6_next_267 : decode cX6_next 267 = .ok (.aload_n 0, 1) := by decide +kernel
theorem dX6_next_268 : decode cX6_next 268 = .ok (.getfield 25, 3) := by decide +kernel
theorem dX6_next_271 : decode cX6_next 271 = .ok (.aload_n 0, 1) := by decide +kernel
theorem dX6_next_272 : decode cX6_next 272 = .ok (.getfield 142, 3) := by decide +kernel
theorem dX6_next_275 : decode cX6_next 275 = .ok (.baload, 1) := by decide +kernel
theorem dX6_next_276 : decode cX6_next 276 = .ok (.iadd, 1) := by decide +kernel
theorem dX6_next_277 : decode cX6_next 277 = .ok (.bipush 48, 2) := by decide +kernel
theorem dX6_next_279 : decode cX6_next 279 = .ok (.isub, 1) := by decide +kernel
theorem dX6_next_280 : decode cX6_next 280 = .ok (.putfield 158, 3) := by decide +kernel
theorem dX6_next_283 : decode cX6_next 283 = .ok (.aload_n 0, 1) := by decide +kernel
theorem dX6_next_284 : decode cX6_next 284 = .ok (.dup, 1) := by decide +kernel
theorem dX6_next_285 : decode cX6_next 285 = .ok (.getfield 142, 3) := by decide +kernel
theorem dX6_next_288 : decode cX6_next 288 = .ok (.iconst 1, 1) := by decide +kernel
theorem dX6_next_289 : decode cX6_next 289 = .ok (.iadd, 1) := by decide +kernel
theorem dX6_next_290 : decode cX6_next 290 = .ok (.putfield 142, 3) := by decide +kernel
theorem dX6_next_293 : decode cX6_next 293 = .ok (.goto (-73), 3) := by decide +kernel
theorem dX6_next_296 : decode cX6_next 296 = .ok (.aload_n 0, 1) := by decide +kernel
theorem dX6_next_297 : decode cX6_next 297 = .ok (.iload_n 2, 1) := by decide +kernel
theorem dX6_next_298 : decode cX6_next 298 = .ok (.ifCond .ne 16, 3) := by decide +kernel
theorem dX6_next_301 : decode cX6_next 301 = .ok (.aload_n 0, 1) := by decide +kernel
theorem dX6_next_302 : decode cX6_next 302 = .ok (.getfield 142, 3) := by decide +kernel
theorem dX6_next_305 : decode cX6_next 305 = .ok (.aload_n 0, 1) := by decide +kernel
theorem dX6_next_306 : decode cX6_next 306 = .ok (.getfield 145, 3) := by decide +kernel
theorem dX6_next_309 : decode cX6_next 309 = .ok (.isub, 1) := by decide +kernel
theorem dX6_next_310 : decode cX6_next 310 = .ok (.iconst 3, 1) := by decide +kernel
theorem dX6_next_311 : decode cX6_next 311 = .ok (.if_icmp .le 7, 3) := by decide +kernel
theorem dX6_next_314 : decode cX6_next 314 = .ok (.iconst 4, 1) := by decide +kernel
theorem dX6_next_315 : decode cX6_next 315 = .ok (.goto 4, 3) := by decide +kernel
theorem dX6_next_318 : decode cX6_next 318 = .ok (.iconst 2, 1) := by decide +kernel
theorem dX6_next_319 : decode cX6_next 319 = .ok (.putfield 139, 3) := by decide +kernel
theorem dX6_next_322 : decode cX6_next 322 = .ok (.goto 36, 3) := by decide +kernel
theorem dX6_next_325 : decode cX6_next 325 = .ok (.aload_n 0, 1) := by decide +kernel
theorem dX6_next_326 : decode cX6_next 326 = .ok (.aload_n 0, 1) := by decide +kernel
theorem dX6_next_327 : decode cX6_next 327 = .ok (.getfield 145, 3) := by decide +kernel
theorem dX6_next_330 : decode cX6_next 330 = .ok (.iconst 1, 1) := by decide +kernel
theorem dX6_next_331 : decode cX6_next 331 = .ok (.iadd, 1) := by decide +kernel
theorem dX6_next_332 : decode cX6_next 332 = .ok (.putfield 142, 3) := by decide +kernel
theorem dX6_next_335 : decode cX6_next 335 = .ok (.aload_n 0, 1) := by decide +kernel
theorem dX6_next_336 : decode cX6_next 336 = .ok (.aload_n 0, 1) := by decide +kernel
theorem dX6_next_337 : decode cX6_next 337 = .ok (.getfield 25, 3) := by decide +kernel
theorem dX6_next_340 : decode cX6_next 340 = .ok (.aload_n 0, 1) := by decide +kernel
theorem dX6_next_341 : decode cX6_next 341 = .ok (.getfield 145, 3) := by decide +kernel
theorem dX6_next_344 : decode cX6_next 344 = .ok (.baload, 1) := by decide +kernel
theorem dX6_next_345 : decode cX6_next 345 = .ok (.bipush 59, 2) := by decide +kernel
theorem dX6_next_347 : decode cX6_next 347 = .ok (.if_icmp .ne 7, 3) := by decide +kernel
theorem dX6_next_350 : decode cX6_next 350 = .ok (.iconst 3, 1) := by decide +kernel
theorem dX6_next_351 : decode cX6_next 351 = .ok (.goto 4, 3) := by decide +kernel
theorem dX6_next_354 : decode cX6_next 354 = .ok (.iconst 4, 1) := by decide +kernel
theorem dX6_next_355 : decode cX6_next 355 = .ok (.putfield 139, 3) := by decide +kernel
theorem dX6_next_358 : decode cX6_next 358 = .ok (.return_, 1) := by decide +kernel
theorem dX6_errs_0 : decode cX6_errs 0 = .ok (.aload_n 0, 1) := by decide +kernel
theorem dX6_errs_1 : decode cX6_errs 1 = .ok (.getfield 161, 3) := by decide +kernel
theorem dX6_errs_4 : decode cX6_errs 4 = .ok (.ifCond .ne 16, 3) := by decide +kernel
theorem dX6_errs_7 : decode cX6_errs 7 = .ok (.aload_n 0, 1) := by decide +kernel
theorem dX6_errs_8 : decode cX6_errs 8 = .ok (.iload_n 1, 1) := by decide +kernel
theorem dX6_errs_9 : decode cX6_errs 9 = .ok (.putfield 161, 3) := by decide +kernel
theorem dX6_errs_12 : decode cX6_errs 12 = .ok (.aload_n 0, 1) := by decide +kernel
theorem dX6_errs_13 : decode cX6_errs 13 = .ok (.aload_n 0, 1) := by decide +kernel
theorem dX6_errs_14 : decode cX6_errs 14 = .ok (.getfield 145, 3) := by decide +kernel
theorem dX6_errs_17 : decode cX6_errs 17 = .ok (.putfield 164, 3) := by decide +kernel
theorem dX6_errs_20 : decode cX6_errs 20 = .ok (.return_, 1) := by decide +kernel
theorem dX6_isKey_0 : decode cX6_isKey 0 = .ok (.aload_n 0, 1) := by decide +kernel
theorem dX6_isKey_1 : decode cX6_isKey 1 = .ok (.getfield 139, 3) := by decide +kernel
theorem dX6_isKey_4 : decode cX6_isKey 4 = .ok (.iconst 1, 1) := by decide +kernel
theorem dX6_isKey_5 : decode cX6_isKey 5 = .ok (.if_icmp .ne 16, 3) := by decide +kernel
theorem dX6_isKey_8 : decode cX6_isKey 8 = .ok (.aload_n 0, 1) := by decide +kernel
theorem dX6_isKey_9 : decode cX6_isKey 9 = .ok (.getfield 142, 3) := by decide +kernel
theorem dX6_isKey_12 : decode cX6_isKey 12 = .ok (.aload_n 0, 1) := by decide +kernel
theorem dX6_isKey_13 : decode cX6_isKey 13 = .ok (.getfield 145, 3) := by decide +kernel
theorem dX6_isKey_16 : decode cX6_isKey 16 = .ok (.isub, 1) := by decide +kernel
theorem dX6_isKey_17 : decode cX6_isKey 17 = .ok (.iconst 5, 1) := by decide +kernel
theorem dX6_isKey_18 : decode cX6_isKey 18 = .ok (.if_icmp .le 5, 3) := by decide +kernel
theorem dX6_isKey_21 : decode cX6_isKey 21 = .ok (.iconst 0, 1) := by decide +kernel
theorem dX6_isKey_22 : decode cX6_isKey 22 = .ok (.ireturn, 1) := by decide +kernel
theorem dX6_isKey_23 : decode cX6_isKey 23 = .ok (.iconst 0, 1) := by decide +kernel
theorem dX6_isKey_24 : decode cX6_isKey 24 = .ok (.istore_n 2, 1) := by decide +kernel
theorem dX6_isKey_25 : decode cX6_isKey 25 = .ok (.iload_n 2, 1) := by decide +kernel
theorem dX6_isKey_26 : decode cX6_isKey 26 = .ok (.iconst 5, 1) := by decide +kernel
theorem dX6_isKey_27 : decode cX6_isKey 27 = .ok (.if_icmp .ge 54, 3) := by decide +kernel
theorem dX6_isKey_30 : decode cX6_isKey 30 = .ok (.iload_n 2, 1) := by decide +kernel
theorem dX6_isKey_31 : decode cX6_isKey 31 = .ok (.aload_n 0, 1) := by decide +kernel
theorem dX6_isKey_32 : decode cX6_isKey 32 = .ok (.getfield 142, 3) := by decide +kernel
theorem dX6_isKey_35 : decode cX6_isKey 35 = .ok (.aload_n 0, 1) := by decide +kernel
theorem dX6_isKey_36 : decode cX6_isKey 36 = .ok (.getfield 145, 3) := by decide +kernel
theorem dX6_isKey_39 : decode cX6_isKey 39 = .ok (.isub, 1) := by decide +kernel
theorem dX6_isKey_40 : decode cX6_isKey 40 = .ok (.if_icmp .ge 17, 3) := by decide +kernel
theorem dX6_isKey_43 : decode cX6_isKey 43 = .ok (.aload_n 0, 1) := by decide +kernel
theorem dX6_isKey_44 : decode cX6_isKey 44 = .ok (.getfield 25, 3) := by decide +kernel
theorem dX6_isKey_47 : decode cX6_isKey 47 = .ok (.aload_n 0, 1) := by decide +kernel
theorem dX6_isKey_48 : decode cX6_isKey 48 = .ok (.getfield 145, 3) := by decide +kernel
theorem dX6_isKey_51 : decode cX6_isKey 51 = .ok (.iload_n 2, 1) := by decide +kernel
theorem dX6_isKey_52 : decode cX6_isKey 52 = .ok (.iadd, 1) := by decide +kernel
theorem dX6_isKey_53 : decode cX6_isKey 53 = .ok (.baload, 1) := by decide +kernel
theorem dX6_isKey_54 : decode cX6_isKey 54 = .ok (.goto 4, 3) := by decide +kernel
theorem dX6_isKey_57 : decode cX6_isKey 57 = .ok (.iconst 0, 1) := by decide +kernel
theorem dX6_isKey_58 : decode cX6_isKey 58 = .ok (.istore_n 3, 1) := by decide +kernel
theorem dX6_isKey_59 : decode cX6_isKey 59 = .ok (.iload_n 3, 1) := by decide +kernel
theorem dX6_isKey_60 : decode cX6_isKey 60 = .ok (.aload_n 0, 1) := by decide +kernel
theorem dX6_isKey_61 : decode cX6_isKey 61 = .ok (.getfield 7, 3) := by decide +kernel
theorem dX6_isKey_64 : decode cX6_isKey 64 = .ok (.iconst 5, 1) := by decide +kernel
theorem dX6_isKey_65 : decode cX6_isKey 65 = .ok (.iload_n 1, 1) := by decide +kernel
theorem dX6_isKey_66 : decode cX6_isKey 66 = .ok (.imul, 1) := by decide +kernel
theorem dX6_isKey_67 : decode cX6_isKey 67 = .ok (.iload_n 2, 1) := by decide +kernel
theorem dX6_isKey_68 : decode cX6_isKey 68 = .ok (.iadd, 1) := by decide +kernel
theorem dX6_isKey_69 : decode cX6_isKey 69 = .ok (.iaload, 1) := by decide +kernel
theorem dX6_isKey_70 : decode cX6_isKey 70 = .ok (.if_icmp .eq 5, 3) := by decide +kernel
theorem dX6_isKey_73 : decode cX6_isKey 73 = .ok (.iconst 0, 1) := by decide +kernel
theorem dX6_isKey_74 : decode cX6_isKey 74 = .ok (.ireturn, 1) := by decide +kernel
theorem dX6_isKey_75 : decode cX6_isKey 75 = .ok (.iinc 2 1, 3) := by decide +kernel
theorem dX6_isKey_78 : decode cX6_isKey 78 = .ok (.goto (-53), 3) := by decide +kernel
theorem dX6_isKey_81 : decode cX6_isKey 81 = .ok (.iconst 1, 1) := by decide +kernel
theorem dX6_isKey_82 : decode cX6_isKey 82 = .ok (.ireturn, 1) := by decide +kernel
theorem dX6_readsPlaces_0 : decode cX6_readsPlaces 0 = .ok (.aload_n 0, 1) := by decide +kernel
theorem dX6_readsPlaces_1 : decode cX6_readsPlaces 1 = .ok (.invokevirtual 167, 3) := by decide +kernel
theorem dX6_readsPlaces_4 : decode cX6_readsPlaces 4 = .ok (.iconst 1, 1) := by decide +kernel
theorem dX6_readsPlaces_5 : decode cX6_readsPlaces 5 = .ok (.istore_n 2, 1) := by decide +kernel
theorem dX6_readsPlaces_6 : decode cX6_readsPlaces 6 = .ok (.aload_n 0, 1) := by decide +kernel
theorem dX6_readsPlaces_7 : decode cX6_readsPlaces 7 = .ok (.getfield 161, 3) := by decide +kernel
theorem dX6_readsPlaces_10 : decode cX6_readsPlaces 10 = .ok (.ifCond .ne 89, 3) := by decide +kernel
theorem dX6_readsPlaces_13 : decode cX6_readsPlaces 13 = .ok (.iload_n 2, 1) := by decide +kernel
theorem dX6_readsPlaces_14 : decode cX6_readsPlaces 14 = .ok (.ifCond .eq 85, 3) := by decide +kernel
theorem dX6_readsPlaces_17 : decode cX6_readsPlaces 17 = .ok (.aload_n 0, 1) := by decide +kernel
theorem dX6_readsPlaces_18 : decode cX6_readsPlaces 18 = .ok (.getfield 139, 3) := by decide +kernel
theorem dX6_readsPlaces_21 : decode cX6_readsPlaces 21 = .ok (.iconst 2, 1) := by decide +kernel
theorem dX6_readsPlaces_22 : decode cX6_readsPlaces 22 = .ok (.if_icmp .eq 11, 3) := by decide +kernel
theorem dX6_readsPlaces_25 : decode cX6_readsPlaces 25 = .ok (.aload_n 0, 1) := by decide +kernel
theorem dX6_readsPlaces_26 : decode cX6_readsPlaces 26 = .ok (.iconst 1, 1) := by decide +kernel
theorem dX6_readsPlaces_27 : decode cX6_readsPlaces 27 = .ok (.invokevirtual 170, 3) := by decide +kernel
theorem dX6_readsPlaces_30 : decode cX6_readsPlaces 30 = .ok (.goto 52, 3) := by decide +kernel
theorem dX6_readsPlaces_33 : decode cX6_readsPlaces 33 = .ok (.aload_n 0, 1) := by decide +kernel
theorem dX6_readsPlaces_34 : decode cX6_readsPlaces 34 = .ok (.getfield 158, 3) := by decide +kernel
theorem dX6_readsPlaces_37 : decode cX6_readsPlaces 37 = .ok (.bipush 9, 2) := by decide +kernel
theorem dX6_readsPlaces_39 : decode cX6_readsPlaces 39 = .ok (.if_icmp .le 11, 3) := by decide +kernel
theorem dX6_readsPlaces_42 : decode cX6_readsPlaces 42 = .ok (.aload_n 0, 1) := by decide +kernel
theorem dX6_readsPlaces_43 : decode cX6_readsPlaces 43 = .ok (.iconst 2, 1) := by decide +kernel
theorem dX6_readsPlaces_44 : decode cX6_readsPlaces 44 = .ok (.invokevirtual 170, 3) := by decide +kernel
theorem dX6_readsPlaces_47 : decode cX6_readsPlaces 47 = .ok (.goto 35, 3) := by decide +kernel
theorem dX6_readsPlaces_50 : decode cX6_readsPlaces 50 = .ok (.aload_n 0, 1) := by decide +kernel
theorem dX6_readsPlaces_51 : decode cX6_readsPlaces 51 = .ok (.getfield 13, 3) := by decide +kernel
theorem dX6_readsPlaces_54 : decode cX6_readsPlaces 54 = .ok (.iconst 0, 1) := by decide +kernel
theorem dX6_readsPlaces_55 : decode cX6_readsPlaces 55 = .ok (.iaload, 1) := by decide +kernel
theorem dX6_readsPlaces_56 : decode cX6_readsPlaces 56 = .ok (.bipush 20, 2) := by decide +kernel
theorem dX6_readsPlaces_58 : decode cX6_readsPlaces 58 = .ok (.if_icmp .ne 11, 3) := by decide +kernel
theorem dX6_readsPlaces_61 : decode cX6_readsPlaces 61 = .ok (.aload_n 0, 1) := by decide +kernel
theorem dX6_readsPlaces_62 : decode cX6_readsPlaces 62 = .ok (.iconst 5, 1) := by decide +kernel
theorem dX6_readsPlaces_63 : decode cX6_readsPlaces 63 = .ok (.invokevirtual 170, 3) := by decide +kernel
theorem dX6_readsPlaces_66 : decode cX6_readsPlaces 66 = .ok (.goto 16, 3) := by decide +kernel
theorem dX6_readsPlaces_69 : decode cX6_readsPlaces 69 = .ok (.aload_n 0, 1) := by decide +kernel
theorem dX6_readsPlaces_70 : decode cX6_readsPlaces 70 = .ok (.iload_n 1, 1) := by decide +kernel
theorem dX6_readsPlaces_71 : decode cX6_readsPlaces 71 = .ok (.aload_n 0, 1) := by decide +kernel
theorem dX6_readsPlaces_72 : decode cX6_readsPlaces 72 = .ok (.getfield 158, 3) := by decide +kernel
theorem dX6_readsPlaces_75 : decode cX6_readsPlaces 75 = .ok (.invokevirtual 54, 3) := by decide +kernel
theorem dX6_readsPlaces_78 : decode cX6_readsPlaces 78 = .ok (.aload_n 0, 1) := by decide +kernel
theorem dX6_readsPlaces_79 : decode cX6_readsPlaces 79 = .ok (.invokevirtual 167, 3) := by decide +kernel
theorem dX6_readsPlaces_82 : decode cX6_readsPlaces 82 = .ok (.aload_n 0, 1) := by decide +kernel
theorem dX6_readsPlaces_83 : decode cX6_readsPlaces 83 = .ok (.getfield 139, 3) := by decide +kernel
theorem dX6_readsPlaces_86 : decode cX6_readsPlaces 86 = .ok (.iconst 2, 1) := by decide +kernel
theorem dX6_readsPlaces_87 : decode cX6_readsPlaces 87 = .ok (.if_icmp .ne 7, 3) := by decide +kernel
theorem dX6_readsPlaces_90 : decode cX6_readsPlaces 90 = .ok (.iconst 1, 1) := by decide +kernel
theorem dX6_readsPlaces_91 : decode cX6_readsPlaces 91 = .ok (.goto 4, 3) := by decide +kernel
theorem dX6_readsPlaces_94 : decode cX6_readsPlaces 94 = .ok (.iconst 0, 1) := by decide +kernel
theorem dX6_readsPlaces_95 : decode cX6_readsPlaces 95 = .ok (.istore_n 2, 1) := by decide +kernel
theorem dX6_readsPlaces_96 : decode cX6_readsPlaces 96 = .ok (.goto (-90), 3) := by decide +kernel
theorem dX6_readsPlaces_99 : decode cX6_readsPlaces 99 = .ok (.return_, 1) := by decide +kernel
theorem dX6_thePlace_0 : decode cX6_thePlace 0 = .ok (.aload_n 0, 1) := by decide +kernel
theorem dX6_thePlace_1 : decode cX6_thePlace 1 = .ok (.getfield 161, 3) := by decide +kernel
theorem dX6_thePlace_4 : decode cX6_thePlace 4 = .ok (.ifCond .ne 16, 3) := by decide +kernel
theorem dX6_thePlace_7 : decode cX6_thePlace 7 = .ok (.aload_n 0, 1) := by decide +kernel
theorem dX6_thePlace_8 : decode cX6_thePlace 8 = .ok (.getfield 139, 3) := by decide +kernel
theorem dX6_thePlace_11 : decode cX6_thePlace 11 = .ok (.iconst 2, 1) := by decide +kernel
theorem dX6_thePlace_12 : decode cX6_thePlace 12 = .ok (.if_icmp .eq 8, 3) := by decide +kernel
theorem dX6_thePlace_15 : decode cX6_thePlace 15 = .ok (.aload_n 0, 1) := by decide +kernel
theorem dX6_thePlace_16 : decode cX6_thePlace 16 = .ok (.iconst 1, 1) := by decide +kernel
theorem dX6_thePlace_17 : decode cX6_thePlace 17 = .ok (.invokevirtual 170, 3) := by decide +kernel
theorem dX6_thePlace_20 : decode cX6_thePlace 20 = .ok (.aload_n 0, 1) := by decide +kernel
theorem dX6_thePlace_21 : decode cX6_thePlace 21 = .ok (.getfield 161, 3) := by decide +kernel
theorem dX6_thePlace_24 : decode cX6_thePlace 24 = .ok (.ifCond .ne 19, 3) := by decide +kernel
theorem dX6_thePlace_27 : decode cX6_thePlace 27 = .ok (.aload_n 0, 1) := by decide +kernel
theorem dX6_thePlace_28 : decode cX6_thePlace 28 = .ok (.aload_n 0, 1) := by decide +kernel
theorem dX6_thePlace_29 : decode cX6_thePlace 29 = .ok (.getfield 158, 3) := by decide +kernel
theorem dX6_thePlace_32 : decode cX6_thePlace 32 = .ok (.invokevirtual 173, 3) := by decide +kernel
theorem dX6_thePlace_35 : decode cX6_thePlace 35 = .ok (.ifCond .ne 8, 3) := by decide +kernel
theorem dX6_thePlace_38 : decode cX6_thePlace 38 = .ok (.aload_n 0, 1) := by decide +kernel
theorem dX6_thePlace_39 : decode cX6_thePlace 39 = .ok (.iconst 3, 1) := by decide +kernel
theorem dX6_thePlace_40 : decode cX6_thePlace 40 = .ok (.invokevirtual 170, 3) := by decide +kernel
theorem dX6_thePlace_43 : decode cX6_thePlace 43 = .ok (.aload_n 0, 1) := by decide +kernel
theorem dX6_thePlace_44 : decode cX6_thePlace 44 = .ok (.getfield 158, 3) := by decide +kernel
theorem dX6_thePlace_47 : decode cX6_thePlace 47 = .ok (.ireturn, 1) := by decide +kernel
theorem dX6_readsMoves_0 : decode cX6_readsMoves 0 = .ok (.aload_n 0, 1) := by decide +kernel
theorem dX6_readsMoves_1 : decode cX6_readsMoves 1 = .ok (.invokevirtual 167, 3) := by decide +kernel
theorem dX6_readsMoves_4 : decode cX6_readsMoves 4 = .ok (.aload_n 0, 1) := by decide +kernel
theorem dX6_readsMoves_5 : decode cX6_readsMoves 5 = .ok (.invokevirtual 176, 3) := by decide +kernel
theorem dX6_readsMoves_8 : decode cX6_readsMoves 8 = .ok (.istore_n 1, 1) := by decide +kernel
theorem dX6_readsMoves_9 : decode cX6_readsMoves 9 = .ok (.aload_n 0, 1) := by decide +kernel
theorem dX6_readsMoves_10 : decode cX6_readsMoves 10 = .ok (.getfield 161, 3) := by decide +kernel
theorem dX6_readsMoves_13 : decode cX6_readsMoves 13 = .ok (.ifCond .ne 7, 3) := by decide +kernel
theorem dX6_readsMoves_16 : decode cX6_readsMoves 16 = .ok (.aload_n 0, 1) := by decide +kernel
theorem dX6_readsMoves_17 : decode cX6_readsMoves 17 = .ok (.invokevirtual 167, 3) := by decide +kernel
theorem dX6_readsMoves_20 : decode cX6_readsMoves 20 = .ok (.iconst 1, 1) := by decide +kernel
theorem dX6_readsMoves_21 : decode cX6_readsMoves 21 = .ok (.istore_n 2, 1) := by decide +kernel
theorem dX6_readsMoves_22 : decode cX6_readsMoves 22 = .ok (.aload_n 0, 1) := by decide +kernel
theorem dX6_readsMoves_23 : decode cX6_readsMoves 23 = .ok (.getfield 161, 3) := by decide +kernel
theorem dX6_readsMoves_26 : decode cX6_readsMoves 26 = .ok (.ifCond .ne 91, 3) := by decide +kernel
theorem dX6_readsMoves_29 : decode cX6_readsMoves 29 = .ok (.iload_n 2, 1) := by decide +kernel
theorem dX6_readsMoves_30 : decode cX6_readsMoves 30 = .ok (.ifCond .eq 87, 3) := by decide +kernel
theorem dX6_readsMoves_33 : decode cX6_readsMoves 33 = .ok (.aload_n 0, 1) := by decide +kernel
theorem dX6_readsMoves_34 : decode cX6_readsMoves 34 = .ok (.invokevirtual 176, 3) := by decide +kernel
theorem dX6_readsMoves_37 : decode cX6_readsMoves 37 = .ok (.istore_n 3, 1) := by decide +kernel
theorem dX6_readsMoves_38 : decode cX6_readsMoves 38 = .ok (.aload_n 0, 1) := by decide +kernel
theorem dX6_readsMoves_39 : decode cX6_readsMoves 39 = .ok (.getfield 161, 3) := by decide +kernel
theorem dX6_readsMoves_42 : decode cX6_readsMoves 42 = .ok (.ifCond .ne 18, 3) := by decide +kernel
theorem dX6_readsMoves_45 : decode cX6_readsMoves 45 = .ok (.aload_n 0, 1) := by decide +kernel
theorem dX6_readsMoves_46 : decode cX6_readsMoves 46 = .ok (.iload_n 1, 1) := by decide +kernel
theorem dX6_readsMoves_47 : decode cX6_readsMoves 47 = .ok (.iload_n 3, 1) := by decide +kernel
theorem dX6_readsMoves_48 : decode cX6_readsMoves 48 = .ok (.invokevirtual 179, 3) := by decide +kernel
theorem dX6_readsMoves_51 : decode cX6_readsMoves 51 = .ok (.iconst (-1), 1) := by decide +kernel
theorem dX6_readsMoves_52 : decode cX6_readsMoves 52 = .ok (.if_icmp .eq 8, 3) := by decide +kernel
theorem dX6_readsMoves_55 : decode cX6_readsMoves 55 = .ok (.aload_n 0, 1) := by decide +kernel
theorem dX6_readsMoves_56 : decode cX6_readsMoves 56 = .ok (.iconst 4, 1) := by decide +kernel
theorem dX6_readsMoves_57 : decode cX6_readsMoves 57 = .ok (.invokevirtual 170, 3) := by decide +kernel
theorem dX6_readsMoves_60 : decode cX6_readsMoves 60 = .ok (.aload_n 0, 1) := by decide +kernel
theorem dX6_readsMoves_61 : decode cX6_readsMoves 61 = .ok (.getfield 161, 3) := by decide +kernel
theorem dX6_readsMoves_64 : decode cX6_readsMoves 64 = .ok (.ifCond .ne 19, 3) := by decide +kernel
theorem dX6_readsMoves_67 : decode cX6_readsMoves 67 = .ok (.aload_n 0, 1) := by decide +kernel
theorem dX6_readsMoves_68 : decode cX6_readsMoves 68 = .ok (.getfield 13, 3) := by decide +kernel
theorem dX6_readsMoves_71 : decode cX6_readsMoves 71 = .ok (.iconst 1, 1) := by decide +kernel
theorem dX6_readsMoves_72 : decode cX6_readsMoves 72 = .ok (.iaload, 1) := by decide +kernel
theorem dX6_readsMoves_73 : decode cX6_readsMoves 73 = .ok (.bipush 60, 2) := by decide +kernel
theorem dX6_readsMoves_75 : decode cX6_readsMoves 75 = .ok (.if_icmp .ne 8, 3) := by decide +kernel
theorem dX6_readsMoves_78 : decode cX6_readsMoves 78 = .ok (.aload_n 0, 1) := by decide +kernel
theorem dX6_readsMoves_79 : decode cX6_readsMoves 79 = .ok (.iconst 5, 1) := by decide +kernel
theorem dX6_readsMoves_80 : decode cX6_readsMoves 80 = .ok (.invokevirtual 170, 3) := by decide +kernel
theorem dX6_readsMoves_83 : decode cX6_readsMoves 83 = .ok (.aload_n 0, 1) := by decide +kernel
theorem dX6_readsMoves_84 : decode cX6_readsMoves 84 = .ok (.getfield 161, 3) := by decide +kernel
theorem dX6_readsMoves_87 : decode cX6_readsMoves 87 = .ok (.ifCond .ne 13, 3) := by decide +kernel
theorem dX6_readsMoves_90 : decode cX6_readsMoves 90 = .ok (.aload_n 0, 1) := by decide +kernel
theorem dX6_readsMoves_91 : decode cX6_readsMoves 91 = .ok (.iload_n 1, 1) := by decide +kernel
theorem dX6_readsMoves_92 : decode cX6_readsMoves 92 = .ok (.iload_n 3, 1) := by decide +kernel
theorem dX6_readsMoves_93 : decode cX6_readsMoves 93 = .ok (.invokevirtual 58, 3) := by decide +kernel
theorem dX6_readsMoves_96 : decode cX6_readsMoves 96 = .ok (.aload_n 0, 1) := by decide +kernel
theorem dX6_readsMoves_97 : decode cX6_readsMoves 97 = .ok (.invokevirtual 167, 3) := by decide +kernel
theorem dX6_readsMoves_100 : decode cX6_readsMoves 100 = .ok (.aload_n 0, 1) := by decide +kernel
theorem dX6_readsMoves_101 : decode cX6_readsMoves 101 = .ok (.getfield 139, 3) := by decide +kernel
theorem dX6_readsMoves_104 : decode cX6_readsMoves 104 = .ok (.iconst 2, 1) := by decide +kernel
theorem dX6_readsMoves_105 : decode cX6_readsMoves 105 = .ok (.if_icmp .ne 7, 3) := by decide +kernel
theorem dX6_readsMoves_108 : decode cX6_readsMoves 108 = .ok (.iconst 1, 1) := by decide +kernel
theorem dX6_readsMoves_109 : decode cX6_readsMoves 109 = .ok (.goto 4, 3) := by decide +kernel
theorem dX6_readsMoves_112 : decode cX6_readsMoves 112 = .ok (.iconst 0, 1) := by decide +kernel
theorem dX6_readsMoves_113 : decode cX6_readsMoves 113 = .ok (.istore_n 2, 1) := by decide +kernel
theorem dX6_readsMoves_114 : decode cX6_readsMoves 114 = .ok (.goto (-92), 3) := by decide +kernel
theorem dX6_readsMoves_117 : decode cX6_readsMoves 117 = .ok (.return_, 1) := by decide +kernel
theorem dX6_readsLine_0 : decode cX6_readsLine 0 = .ok (.aload_n 0, 1) := by decide +kernel
theorem dX6_readsLine_1 : decode cX6_readsLine 1 = .ok (.iconst 1, 1) := by decide +kernel
theorem dX6_readsLine_2 : decode cX6_readsLine 2 = .ok (.invokevirtual 182, 3) := by decide +kernel
theorem dX6_readsLine_5 : decode cX6_readsLine 5 = .ok (.ifCond .eq 11, 3) := by decide +kernel
theorem dX6_readsLine_8 : decode cX6_readsLine 8 = .ok (.aload_n 0, 1) := by decide +kernel
theorem dX6_readsLine_9 : decode cX6_readsLine 9 = .ok (.iconst 0, 1) := by decide +kernel
theorem dX6_readsLine_10 : decode cX6_readsLine 10 = .ok (.invokevirtual 185, 3) := by decide +kernel
theorem dX6_readsLine_13 : decode cX6_readsLine 13 = .ok (.goto 75, 3) := by decide +kernel
theorem dX6_readsLine_16 : decode cX6_readsLine 16 = .ok (.aload_n 0, 1) := by decide +kernel
theorem dX6_readsLine_17 : decode cX6_readsLine 17 = .ok (.iconst 2, 1) := by decide +kernel
theorem dX6_readsLine_18 : decode cX6_readsLine 18 = .ok (.invokevirtual 182, 3) := by decide +kernel
theorem dX6_readsLine_21 : decode cX6_readsLine 21 = .ok (.ifCond .eq 11, 3) := by decide +kernel
theorem dX6_readsLine_24 : decode cX6_readsLine 24 = .ok (.aload_n 0, 1) := by decide +kernel
theorem dX6_readsLine_25 : decode cX6_readsLine 25 = .ok (.iconst 1, 1) := by decide +kernel
theorem dX6_readsLine_26 : decode cX6_readsLine 26 = .ok (.invokevirtual 185, 3) := by decide +kernel
theorem dX6_readsLine_29 : decode cX6_readsLine 29 = .ok (.goto 59, 3) := by decide +kernel
theorem dX6_readsLine_32 : decode cX6_readsLine 32 = .ok (.aload_n 0, 1) := by decide +kernel
theorem dX6_readsLine_33 : decode cX6_readsLine 33 = .ok (.iconst 3, 1) := by decide +kernel
theorem dX6_readsLine_34 : decode cX6_readsLine 34 = .ok (.invokevirtual 182, 3) := by decide +kernel
theorem dX6_readsLine_37 : decode cX6_readsLine 37 = .ok (.ifCond .eq 10, 3) := by decide +kernel
theorem dX6_readsLine_40 : decode cX6_readsLine 40 = .ok (.aload_n 0, 1) := by decide +kernel
theorem dX6_readsLine_41 : decode cX6_readsLine 41 = .ok (.invokevirtual 188, 3) := by decide +kernel
theorem dX6_readsLine_44 : decode cX6_readsLine 44 = .ok (.goto 44, 3) := by decide +kernel
theorem dX6_readsLine_47 : decode cX6_readsLine 47 = .ok (.aload_n 0, 1) := by decide +kernel
theorem dX6_readsLine_48 : decode cX6_readsLine 48 = .ok (.iconst 4, 1) := by decide +kernel
theorem dX6_readsLine_49 : decode cX6_readsLine 49 = .ok (.invokevirtual 182, 3) := by decide +kernel
theorem dX6_readsLine_52 : decode cX6_readsLine 52 = .ok (.ifCond .eq 31, 3) := by decide +kernel
theorem dX6_readsLine_55 : decode cX6_readsLine 55 = .ok (.aload_n 0, 1) := by decide +kernel
theorem dX6_readsLine_56 : decode cX6_readsLine 56 = .ok (.invokevirtual 167, 3) := by decide +kernel
theorem dX6_readsLine_59 : decode cX6_readsLine 59 = .ok (.aload_n 0, 1) := by decide +kernel
theorem dX6_readsLine_60 : decode cX6_readsLine 60 = .ok (.getfield 13, 3) := by decide +kernel
theorem dX6_readsLine_63 : decode cX6_readsLine 63 = .ok (.iconst 2, 1) := by decide +kernel
theorem dX6_readsLine_64 : decode cX6_readsLine 64 = .ok (.aload_n 0, 1) := by decide +kernel
theorem dX6_readsLine_65 : decode cX6_readsLine 65 = .ok (.invokevirtual 176, 3) := by decide +kernel
theorem dX6_readsLine_68 : decode cX6_readsLine 68 = .ok (.iastore, 1) := by decide +kernel
theorem dX6_readsLine_69 : decode cX6_readsLine 69 = .ok (.aload_n 0, 1) := by decide +kernel
theorem dX6_readsLine_70 : decode cX6_readsLine 70 = .ok (.getfield 161, 3) := by decide +kernel
theorem dX6_readsLine_73 : decode cX6_readsLine 73 = .ok (.ifCond .ne 15, 3) := by decide +kernel
theorem dX6_readsLine_76 : decode cX6_readsLine 76 = .ok (.aload_n 0, 1) := by decide +kernel
theorem dX6_readsLine_77 : decode cX6_readsLine 77 = .ok (.invokevirtual 167, 3) := by decide +kernel
theorem dX6_readsLine_80 : decode cX6_readsLine 80 = .ok (.goto 8, 3) := by decide +kernel
theorem dX6_readsLine_83 : decode cX6_readsLine 83 = .ok (.aload_n 0, 1) := by decide +kernel
theorem dX6_readsLine_84 : decode cX6_readsLine 84 = .ok (.iconst 1, 1) := by decide +kernel
theorem dX6_readsLine_85 : decode cX6_readsLine 85 = .ok (.invokevirtual 170, 3) := by decide +kernel
theorem dX6_readsLine_88 : decode cX6_readsLine 88 = .ok (.return_, 1) := by decide +kernel
theorem dX6_readsText_0 : decode cX6_readsText 0 = .ok (.iconst 0, 1) := by decide +kernel
theorem dX6_readsText_1 : decode cX6_readsText 1 = .ok (.istore_n 2, 1) := by decide +kernel
theorem dX6_readsText_2 : decode cX6_readsText 2 = .ok (.iload_n 2, 1) := by decide +kernel
theorem dX6_readsText_3 : decode cX6_readsText 3 = .ok (.sipush 176, 3) := by decide +kernel
theorem dX6_readsText_6 : decode cX6_readsText 6 = .ok (.if_icmp .ge 16, 3) := by decide +kernel
theorem dX6_readsText_9 : decode cX6_readsText 9 = .ok (.aload_n 0, 1) := by decide +kernel
theorem dX6_readsText_10 : decode cX6_readsText 10 = .ok (.getfield 13, 3) := by decide +kernel
theorem dX6_readsText_13 : decode cX6_readsText 13 = .ok (.iload_n 2, 1) := by decide +kernel
theorem dX6_readsText_14 : decode cX6_readsText 14 = .ok (.iconst 0, 1) := by decide +kernel
theorem dX6_readsText_15 : decode cX6_readsText 15 = .ok (.iastore, 1) := by decide +kernel
theorem dX6_readsText_16 : decode cX6_readsText 16 = .ok (.iinc 2 1, 3) := by decide +kernel
theorem dX6_readsText_19 : decode cX6_readsText 19 = .ok (.goto (-17), 3) := by decide +kernel
theorem dX6_readsText_22 : decode cX6_readsText 22 = .ok (.aload_n 0, 1) := by decide +kernel
theorem dX6_readsText_23 : decode cX6_readsText 23 = .ok (.iload_n 1, 1) := by decide +kernel
theorem dX6_readsText_24 : decode cX6_readsText 24 = .ok (.putfield 148, 3) := by decide +kernel
theorem dX6_readsText_27 : decode cX6_readsText 27 = .ok (.aload_n 0, 1) := by decide +kernel
theorem dX6_readsText_28 : decode cX6_readsText 28 = .ok (.iconst 0, 1) := by decide +kernel
theorem dX6_readsText_29 : decode cX6_readsText 29 = .ok (.putfield 161, 3) := by decide +kernel
theorem dX6_readsText_32 : decode cX6_readsText 32 = .ok (.aload_n 0, 1) := by decide +kernel
theorem dX6_readsText_33 : decode cX6_readsText 33 = .ok (.iconst 0, 1) := by decide +kernel
theorem dX6_readsText_34 : decode cX6_readsText 34 = .ok (.putfield 139, 3) := by decide +kernel
theorem dX6_readsText_37 : decode cX6_readsText 37 = .ok (.aload_n 0, 1) := by decide +kernel
theorem dX6_readsText_38 : decode cX6_readsText 38 = .ok (.iconst 0, 1) := by decide +kernel
theorem dX6_readsText_39 : decode cX6_readsText 39 = .ok (.putfield 142, 3) := by decide +kernel
theorem dX6_readsText_42 : decode cX6_readsText 42 = .ok (.aload_n 0, 1) := by decide +kernel
theorem dX6_readsText_43 : decode cX6_readsText 43 = .ok (.invokevirtual 167, 3) := by decide +kernel
theorem dX6_readsText_46 : decode cX6_readsText 46 = .ok (.aload_n 0, 1) := by decide +kernel
theorem dX6_readsText_47 : decode cX6_readsText 47 = .ok (.iconst 0, 1) := by decide +kernel
theorem dX6_readsText_48 : decode cX6_readsText 48 = .ok (.invokevirtual 182, 3) := by decide +kernel
theorem dX6_readsText_51 : decode cX6_readsText 51 = .ok (.ifCond .eq 10, 3) := by decide +kernel
theorem dX6_readsText_54 : decode cX6_readsText 54 = .ok (.aload_n 0, 1) := by decide +kernel
theorem dX6_readsText_55 : decode cX6_readsText 55 = .ok (.invokevirtual 167, 3) := by decide +kernel
theorem dX6_readsText_58 : decode cX6_readsText 58 = .ok (.goto 8, 3) := by decide +kernel
theorem dX6_readsText_61 : decode cX6_readsText 61 = .ok (.aload_n 0, 1) := by decide +kernel
theorem dX6_readsText_62 : decode cX6_readsText 62 = .ok (.iconst 1, 1) := by decide +kernel
theorem dX6_readsText_63 : decode cX6_readsText 63 = .ok (.invokevirtual 170, 3) := by decide +kernel
theorem dX6_readsText_66 : decode cX6_readsText 66 = .ok (.aload_n 0, 1) := by decide +kernel
theorem dX6_readsText_67 : decode cX6_readsText 67 = .ok (.getfield 161, 3) := by decide +kernel
theorem dX6_readsText_70 : decode cX6_readsText 70 = .ok (.ifCond .ne 37, 3) := by decide +kernel
theorem dX6_readsText_73 : decode cX6_readsText 73 = .ok (.aload_n 0, 1) := by decide +kernel
theorem dX6_readsText_74 : decode cX6_readsText 74 = .ok (.getfield 139, 3) := by decide +kernel
theorem dX6_readsText_77 : decode cX6_readsText 77 = .ok (.ifCond .eq 30, 3) := by decide +kernel
theorem dX6_readsText_80 : decode cX6_readsText 80 = .ok (.aload_n 0, 1) := by decide +kernel
theorem dX6_readsText_81 : decode cX6_readsText 81 = .ok (.getfield 139, 3) := by decide +kernel
theorem dX6_readsText_84 : decode cX6_readsText 84 = .ok (.iconst 3, 1) := by decide +kernel
theorem dX6_readsText_85 : decode cX6_readsText 85 = .ok (.if_icmp .ne 14, 3) := by decide +kernel
theorem dX6_readsText_88 : decode cX6_readsText 88 = .ok (.aload_n 0, 1) := by decide +kernel
theorem dX6_readsText_89 : decode cX6_readsText 89 = .ok (.invokevirtual 167, 3) := by decide +kernel
theorem dX6_readsText_92 : decode cX6_readsText 92 = .ok (.aload_n 0, 1) := by decide +kernel
theorem dX6_readsText_93 : decode cX6_readsText 93 = .ok (.invokevirtual 191, 3) := by decide +kernel
theorem dX6_readsText_96 : decode cX6_readsText 96 = .ok (.goto (-30), 3) := by decide +kernel
theorem dX6_readsText_99 : decode cX6_readsText 99 = .ok (.aload_n 0, 1) := by decide +kernel
theorem dX6_readsText_100 : decode cX6_readsText 100 = .ok (.iconst 1, 1) := by decide +kernel
theorem dX6_readsText_101 : decode cX6_readsText 101 = .ok (.invokevirtual 170, 3) := by decide +kernel
theorem dX6_readsText_104 : decode cX6_readsText 104 = .ok (.goto (-38), 3) := by decide +kernel
theorem dX6_readsText_107 : decode cX6_readsText 107 = .ok (.aload_n 0, 1) := by decide +kernel
theorem dX6_readsText_108 : decode cX6_readsText 108 = .ok (.getfield 161, 3) := by decide +kernel
theorem dX6_readsText_111 : decode cX6_readsText 111 = .ok (.ifCond .ne 18, 3) := by decide +kernel
theorem dX6_readsText_114 : decode cX6_readsText 114 = .ok (.aload_n 0, 1) := by decide +kernel
theorem dX6_readsText_115 : decode cX6_readsText 115 = .ok (.getfield 13, 3) := by decide +kernel
theorem dX6_readsText_118 : decode cX6_readsText 118 = .ok (.iconst 0, 1) := by decide +kernel
theorem dX6_readsText_119 : decode cX6_readsText 119 = .ok (.iaload, 1) := by decide +kernel
theorem dX6_readsText_120 : decode cX6_readsText 120 = .ok (.ifCond .ne 9, 3) := by decide +kernel
theorem dX6_readsText_123 : decode cX6_readsText 123 = .ok (.aload_n 0, 1) := by decide +kernel
theorem dX6_readsText_124 : decode cX6_readsText 124 = .ok (.bipush 6, 2) := by decide +kernel
theorem dX6_readsText_126 : decode cX6_readsText 126 = .ok (.invokevirtual 170, 3) := by decide +kernel
theorem dX6_readsText_129 : decode cX6_readsText 129 = .ok (.aload_n 0, 1) := by decide +kernel
theorem dX6_readsText_130 : decode cX6_readsText 130 = .ok (.getfield 161, 3) := by decide +kernel
theorem dX6_readsText_133 : decode cX6_readsText 133 = .ok (.ifCond .ne 13, 3) := by decide +kernel
theorem dX6_readsText_136 : decode cX6_readsText 136 = .ok (.aload_n 0, 1) := by decide +kernel
theorem dX6_readsText_137 : decode cX6_readsText 137 = .ok (.aload_n 0, 1) := by decide +kernel
theorem dX6_readsText_138 : decode cX6_readsText 138 = .ok (.getfield 13, 3) := by decide +kernel
theorem dX6_readsText_141 : decode cX6_readsText 141 = .ok (.iconst 2, 1) := by decide +kernel
theorem dX6_readsText_142 : decode cX6_readsText 142 = .ok (.iaload, 1) := by decide +kernel
theorem dX6_readsText_143 : decode cX6_readsText 143 = .ok (.invokevirtual 61, 3) := by decide +kernel
theorem dX6_readsText_146 : decode cX6_readsText 146 = .ok (.return_, 1) := by decide +kernel
theorem dX6_feeds_0 : decode cX6_feeds 0 = .ok (.aload_n 0, 1) := by decide +kernel
theorem dX6_feeds_1 : decode cX6_feeds 1 = .ok (.getfield 25, 3) := by decide +kernel
theorem dX6_feeds_4 : decode cX6_feeds 4 = .ok (.aload_n 0, 1) := by decide +kernel
theorem dX6_feeds_5 : decode cX6_feeds 5 = .ok (.getfield 194, 3) := by decide +kernel
theorem dX6_feeds_8 : decode cX6_feeds 8 = .ok (.iload_n 1, 1) := by decide +kernel
theorem dX6_feeds_9 : decode cX6_feeds 9 = .ok (.bipush 24, 2) := by decide +kernel
theorem dX6_feeds_11 : decode cX6_feeds 11 = .ok (.ishr, 1) := by decide +kernel
theorem dX6_feeds_12 : decode cX6_feeds 12 = .ok (.i2b, 1) := by decide +kernel
theorem dX6_feeds_13 : decode cX6_feeds 13 = .ok (.bastore, 1) := by decide +kernel
theorem dX6_feeds_14 : decode cX6_feeds 14 = .ok (.aload_n 0, 1) := by decide +kernel
theorem dX6_feeds_15 : decode cX6_feeds 15 = .ok (.getfield 25, 3) := by decide +kernel
theorem dX6_feeds_18 : decode cX6_feeds 18 = .ok (.aload_n 0, 1) := by decide +kernel
theorem dX6_feeds_19 : decode cX6_feeds 19 = .ok (.getfield 194, 3) := by decide +kernel
theorem dX6_feeds_22 : decode cX6_feeds 22 = .ok (.iconst 1, 1) := by decide +kernel
theorem dX6_feeds_23 : decode cX6_feeds 23 = .ok (.iadd, 1) := by decide +kernel
theorem dX6_feeds_24 : decode cX6_feeds 24 = .ok (.iload_n 1, 1) := by decide +kernel
theorem dX6_feeds_25 : decode cX6_feeds 25 = .ok (.bipush 16, 2) := by decide +kernel
theorem dX6_feeds_27 : decode cX6_feeds 27 = .ok (.ishr, 1) := by decide +kernel
theorem dX6_feeds_28 : decode cX6_feeds 28 = .ok (.i2b, 1) := by decide +kernel
theorem dX6_feeds_29 : decode cX6_feeds 29 = .ok (.bastore, 1) := by decide +kernel
theorem dX6_feeds_30 : decode cX6_feeds 30 = .ok (.aload_n 0, 1) := by decide +kernel
theorem dX6_feeds_31 : decode cX6_feeds 31 = .ok (.getfield 25, 3) := by decide +kernel
theorem dX6_feeds_34 : decode cX6_feeds 34 = .ok (.aload_n 0, 1) := by decide +kernel
theorem dX6_feeds_35 : decode cX6_feeds 35 = .ok (.getfield 194, 3) := by decide +kernel
theorem dX6_feeds_38 : decode cX6_feeds 38 = .ok (.iconst 2, 1) := by decide +kernel
theorem dX6_feeds_39 : decode cX6_feeds 39 = .ok (.iadd, 1) := by decide +kernel
theorem dX6_feeds_40 : decode cX6_feeds 40 = .ok (.iload_n 1, 1) := by decide +kernel
theorem dX6_feeds_41 : decode cX6_feeds 41 = .ok (.bipush 8, 2) := by decide +kernel
theorem dX6_feeds_43 : decode cX6_feeds 43 = .ok (.ishr, 1) := by decide +kernel
theorem dX6_feeds_44 : decode cX6_feeds 44 = .ok (.i2b, 1) := by decide +kernel
theorem dX6_feeds_45 : decode cX6_feeds 45 = .ok (.bastore, 1) := by decide +kernel
theorem dX6_feeds_46 : decode cX6_feeds 46 = .ok (.aload_n 0, 1) := by decide +kernel
theorem dX6_feeds_47 : decode cX6_feeds 47 = .ok (.getfield 25, 3) := by decide +kernel
theorem dX6_feeds_50 : decode cX6_feeds 50 = .ok (.aload_n 0, 1) := by decide +kernel
theorem dX6_feeds_51 : decode cX6_feeds 51 = .ok (.getfield 194, 3) := by decide +kernel
theorem dX6_feeds_54 : decode cX6_feeds 54 = .ok (.iconst 3, 1) := by decide +kernel
theorem dX6_feeds_55 : decode cX6_feeds 55 = .ok (.iadd, 1) := by decide +kernel
theorem dX6_feeds_56 : decode cX6_feeds 56 = .ok (.iload_n 1, 1) := by decide +kernel
theorem dX6_feeds_57 : decode cX6_feeds 57 = .ok (.i2b, 1) := by decide +kernel
theorem dX6_feeds_58 : decode cX6_feeds 58 = .ok (.bastore, 1) := by decide +kernel
theorem dX6_feeds_59 : decode cX6_feeds 59 = .ok (.aload_n 0, 1) := by decide +kernel
theorem dX6_feeds_60 : decode cX6_feeds 60 = .ok (.dup, 1) := by decide +kernel
theorem dX6_feeds_61 : decode cX6_feeds 61 = .ok (.getfield 194, 3) := by decide +kernel
theorem dX6_feeds_64 : decode cX6_feeds 64 = .ok (.iconst 4, 1) := by decide +kernel
theorem dX6_feeds_65 : decode cX6_feeds 65 = .ok (.iadd, 1) := by decide +kernel
theorem dX6_feeds_66 : decode cX6_feeds 66 = .ok (.putfield 194, 3) := by decide +kernel
theorem dX6_feeds_69 : decode cX6_feeds 69 = .ok (.return_, 1) := by decide +kernel
theorem dX6_feed_0 : decode cX6_feed 0 = .ok (.aload_n 0, 1) := by decide +kernel
theorem dX6_feed_1 : decode cX6_feed 1 = .ok (.getfield 194, 3) := by decide +kernel
theorem dX6_feed_4 : decode cX6_feed 4 = .ok (.sipush 580, 3) := by decide +kernel
theorem dX6_feed_7 : decode cX6_feed 7 = .ok (.if_icmp .le 9, 3) := by decide +kernel
theorem dX6_feed_10 : decode cX6_feed 10 = .ok (.aload_n 0, 1) := by decide +kernel
theorem dX6_feed_11 : decode cX6_feed 11 = .ok (.iconst 1, 1) := by decide +kernel
theorem dX6_feed_12 : decode cX6_feed 12 = .ok (.invokevirtual 197, 3) := by decide +kernel
theorem dX6_feed_15 : decode cX6_feed 15 = .ok (.ireturn, 1) := by decide +kernel
theorem dX6_feed_16 : decode cX6_feed 16 = .ok (.aload_n 0, 1) := by decide +kernel
theorem dX6_feed_17 : decode cX6_feed 17 = .ok (.iload_n 1, 1) := by decide +kernel
theorem dX6_feed_18 : decode cX6_feed 18 = .ok (.invokevirtual 200, 3) := by decide +kernel
theorem dX6_feed_21 : decode cX6_feed 21 = .ok (.aload_n 0, 1) := by decide +kernel
theorem dX6_feed_22 : decode cX6_feed 22 = .ok (.iload_n 2, 1) := by decide +kernel
theorem dX6_feed_23 : decode cX6_feed 23 = .ok (.invokevirtual 200, 3) := by decide +kernel
theorem dX6_feed_26 : decode cX6_feed 26 = .ok (.aload_n 0, 1) := by decide +kernel
theorem dX6_feed_27 : decode cX6_feed 27 = .ok (.iload_n 3, 1) := by decide +kernel
theorem dX6_feed_28 : decode cX6_feed 28 = .ok (.invokevirtual 200, 3) := by decide +kernel
theorem dX6_feed_31 : decode cX6_feed 31 = .ok (.aload_n 0, 1) := by decide +kernel
theorem dX6_feed_32 : decode cX6_feed 32 = .ok (.iload 4, 2) := by decide +kernel
theorem dX6_feed_34 : decode cX6_feed 34 = .ok (.invokevirtual 200, 3) := by decide +kernel
theorem dX6_feed_37 : decode cX6_feed 37 = .ok (.aload_n 0, 1) := by decide +kernel
theorem dX6_feed_38 : decode cX6_feed 38 = .ok (.iload 5, 2) := by decide +kernel
theorem dX6_feed_40 : decode cX6_feed 40 = .ok (.invokevirtual 200, 3) := by decide +kernel
theorem dX6_feed_43 : decode cX6_feed 43 = .ok (.aload_n 0, 1) := by decide +kernel
theorem dX6_feed_44 : decode cX6_feed 44 = .ok (.aload_n 0, 1) := by decide +kernel
theorem dX6_feed_45 : decode cX6_feed 45 = .ok (.getfield 194, 3) := by decide +kernel
theorem dX6_feed_48 : decode cX6_feed 48 = .ok (.invokevirtual 203, 3) := by decide +kernel
theorem dX6_feed_51 : decode cX6_feed 51 = .ok (.ireturn, 1) := by decide +kernel
theorem dX6_load_0 : decode cX6_load 0 = .ok (.iload_n 1, 1) := by decide +kernel
theorem dX6_load_1 : decode cX6_load 1 = .ok (.iconst 0, 1) := by decide +kernel
theorem dX6_load_2 : decode cX6_load 2 = .ok (.aload_n 0, 1) := by decide +kernel
theorem dX6_load_3 : decode cX6_load 3 = .ok (.getfield 194, 3) := by decide +kernel
theorem dX6_load_6 : decode cX6_load 6 = .ok (.invokestatic 68, 3) := by decide +kernel
theorem dX6_load_9 : decode cX6_load 9 = .ok (.ifCond .ne 9, 3) := by decide +kernel
theorem dX6_load_12 : decode cX6_load 12 = .ok (.aload_n 0, 1) := by decide +kernel
theorem dX6_load_13 : decode cX6_load 13 = .ok (.iconst 1, 1) := by decide +kernel
theorem dX6_load_14 : decode cX6_load 14 = .ok (.invokevirtual 197, 3) := by decide +kernel
theorem dX6_load_17 : decode cX6_load 17 = .ok (.ireturn, 1) := by decide +kernel
theorem dX6_load_18 : decode cX6_load 18 = .ok (.aload_n 0, 1) := by decide +kernel
theorem dX6_load_19 : decode cX6_load 19 = .ok (.invokevirtual 206, 3) := by decide +kernel
theorem dX6_load_22 : decode cX6_load 22 = .ok (.aload_n 0, 1) := by decide +kernel
theorem dX6_load_23 : decode cX6_load 23 = .ok (.iload_n 1, 1) := by decide +kernel
theorem dX6_load_24 : decode cX6_load 24 = .ok (.invokevirtual 209, 3) := by decide +kernel
theorem dX6_load_27 : decode cX6_load 27 = .ok (.aload_n 0, 1) := by decide +kernel
theorem dX6_load_28 : decode cX6_load 28 = .ok (.iconst 0, 1) := by decide +kernel
theorem dX6_load_29 : decode cX6_load 29 = .ok (.putfield 194, 3) := by decide +kernel
theorem dX6_load_32 : decode cX6_load 32 = .ok (.aload_n 0, 1) := by decide +kernel
theorem dX6_load_33 : decode cX6_load 33 = .ok (.aload_n 0, 1) := by decide +kernel
theorem dX6_load_34 : decode cX6_load 34 = .ok (.getfield 161, 3) := by decide +kernel
theorem dX6_load_37 : decode cX6_load 37 = .ok (.putfield 212, 3) := by decide +kernel
theorem dX6_load_40 : decode cX6_load 40 = .ok (.aload_n 0, 1) := by decide +kernel
theorem dX6_load_41 : decode cX6_load 41 = .ok (.aload_n 0, 1) := by decide +kernel
theorem dX6_load_42 : decode cX6_load 42 = .ok (.getfield 161, 3) := by decide +kernel
theorem dX6_load_45 : decode cX6_load 45 = .ok (.ifCond .ne 7, 3) := by decide +kernel
theorem dX6_load_48 : decode cX6_load 48 = .ok (.iconst (-1), 1) := by decide +kernel
theorem dX6_load_49 : decode cX6_load 49 = .ok (.goto 7, 3) := by decide +kernel
theorem dX6_load_52 : decode cX6_load 52 = .ok (.aload_n 0, 1) := by decide +kernel
theorem dX6_load_53 : decode cX6_load 53 = .ok (.getfield 164, 3) := by decide +kernel
theorem dX6_load_56 : decode cX6_load 56 = .ok (.putfield 32, 3) := by decide +kernel
theorem dX6_load_59 : decode cX6_load 59 = .ok (.aload_n 0, 1) := by decide +kernel
theorem dX6_load_60 : decode cX6_load 60 = .ok (.getfield 161, 3) := by decide +kernel
theorem dX6_load_63 : decode cX6_load 63 = .ok (.ifCond .eq 13, 3) := by decide +kernel
theorem dX6_load_66 : decode cX6_load 66 = .ok (.aload_n 0, 1) := by decide +kernel
theorem dX6_load_67 : decode cX6_load 67 = .ok (.invokevirtual 215, 3) := by decide +kernel
theorem dX6_load_70 : decode cX6_load 70 = .ok (.aload_n 0, 1) := by decide +kernel
theorem dX6_load_71 : decode cX6_load 71 = .ok (.iconst 2, 1) := by decide +kernel
theorem dX6_load_72 : decode cX6_load 72 = .ok (.invokevirtual 197, 3) := by decide +kernel
theorem dX6_load_75 : decode cX6_load 75 = .ok (.ireturn, 1) := by decide +kernel
theorem dX6_load_76 : decode cX6_load 76 = .ok (.aload_n 0, 1) := by decide +kernel
theorem dX6_load_77 : decode cX6_load 77 = .ok (.iconst 0, 1) := by decide +kernel
theorem dX6_load_78 : decode cX6_load 78 = .ok (.putfield 136, 3) := by decide +kernel
theorem dX6_load_81 : decode cX6_load 81 = .ok (.aload_n 0, 1) := by decide +kernel
theorem dX6_load_82 : decode cX6_load 82 = .ok (.iconst 0, 1) := by decide +kernel
theorem dX6_load_83 : decode cX6_load 83 = .ok (.putfield 218, 3) := by decide +kernel
theorem dX6_load_86 : decode cX6_load 86 = .ok (.aload_n 0, 1) := by decide +kernel
theorem dX6_load_87 : decode cX6_load 87 = .ok (.aload_n 0, 1) := by decide +kernel
theorem dX6_load_88 : decode cX6_load 88 = .ok (.getfield 13, 3) := by decide +kernel
theorem dX6_load_91 : decode cX6_load 91 = .ok (.iconst 0, 1) := by decide +kernel
theorem dX6_load_92 : decode cX6_load 92 = .ok (.iaload, 1) := by decide +kernel
theorem dX6_load_93 : decode cX6_load 93 = .ok (.invokevirtual 203, 3) := by decide +kernel
theorem dX6_load_96 : decode cX6_load 96 = .ok (.ireturn, 1) := by decide +kernel
theorem dX6_errorCode_0 : decode cX6_errorCode 0 = .ok (.aload_n 0, 1) := by decide +kernel
theorem dX6_errorCode_1 : decode cX6_errorCode 1 = .ok (.aload_n 0, 1) := by decide +kernel
theorem dX6_errorCode_2 : decode cX6_errorCode 2 = .ok (.getfield 212, 3) := by decide +kernel
theorem dX6_errorCode_5 : decode cX6_errorCode 5 = .ok (.invokevirtual 203, 3) := by decide +kernel
theorem dX6_errorCode_8 : decode cX6_errorCode 8 = .ok (.ireturn, 1) := by decide +kernel
theorem dX6_errorPosition_0 : decode cX6_errorPosition 0 = .ok (.aload_n 0, 1) := by decide +kernel
theorem dX6_errorPosition_1 : decode cX6_errorPosition 1 = .ok (.aload_n 0, 1) := by decide +kernel
theorem dX6_errorPosition_2 : decode cX6_errorPosition 2 = .ok (.getfield 32, 3) := by decide +kernel
theorem dX6_errorPosition_5 : decode cX6_errorPosition 5 = .ok (.invokevirtual 203, 3) := by decide +kernel
theorem dX6_errorPosition_8 : decode cX6_errorPosition 8 = .ok (.ireturn, 1) := by decide +kernel
theorem dX6_movesAt_0 : decode cX6_movesAt 0 = .ok (.iconst 0, 1) := by decide +kernel
theorem dX6_movesAt_1 : decode cX6_movesAt 1 = .ok (.istore_n 3, 1) := by decide +kernel
theorem dX6_movesAt_2 : decode cX6_movesAt 2 = .ok (.iconst 0, 1) := by decide +kernel
theorem dX6_movesAt_3 : decode cX6_movesAt 3 = .ok (.istore 4, 2) := by decide +kernel
theorem dX6_movesAt_5 : decode cX6_movesAt 5 = .ok (.iload 4, 2) := by decide +kernel
theorem dX6_movesAt_7 : decode cX6_movesAt 7 = .ok (.aload_n 0, 1) := by decide +kernel
theorem dX6_movesAt_8 : decode cX6_movesAt 8 = .ok (.getfield 13, 3) := by decide +kernel
theorem dX6_movesAt_11 : decode cX6_movesAt 11 = .ok (.iconst 1, 1) := by decide +kernel
theorem dX6_movesAt_12 : decode cX6_movesAt 12 = .ok (.iaload, 1) := by decide +kernel
theorem dX6_movesAt_13 : decode cX6_movesAt 13 = .ok (.if_icmp .ge 30, 3) := by decide +kernel
theorem dX6_movesAt_16 : decode cX6_movesAt 16 = .ok (.iload_n 3, 1) := by decide +kernel
theorem dX6_movesAt_17 : decode cX6_movesAt 17 = .ok (.aload_n 0, 1) := by decide +kernel
theorem dX6_movesAt_18 : decode cX6_movesAt 18 = .ok (.getfield 13, 3) := by decide +kernel
theorem dX6_movesAt_21 : decode cX6_movesAt 21 = .ok (.iload_n 2, 1) := by decide +kernel
theorem dX6_movesAt_22 : decode cX6_movesAt 22 = .ok (.iload 4, 2) := by decide +kernel
theorem dX6_movesAt_24 : decode cX6_movesAt 24 = .ok (.iadd, 1) := by decide +kernel
theorem dX6_movesAt_25 : decode cX6_movesAt 25 = .ok (.iaload, 1) := by decide +kernel
theorem dX6_movesAt_26 : decode cX6_movesAt 26 = .ok (.iload_n 1, 1) := by decide +kernel
theorem dX6_movesAt_27 : decode cX6_movesAt 27 = .ok (.if_icmp .ne 7, 3) := by decide +kernel
theorem dX6_movesAt_30 : decode cX6_movesAt 30 = .ok (.iconst 1, 1) := by decide +kernel
theorem dX6_movesAt_31 : decode cX6_movesAt 31 = .ok (.goto 4, 3) := by decide +kernel
theorem dX6_movesAt_34 : decode cX6_movesAt 34 = .ok (.iconst 0, 1) := by decide +kernel
theorem dX6_movesAt_35 : decode cX6_movesAt 35 = .ok (.iadd, 1) := by decide +kernel
theorem dX6_movesAt_36 : decode cX6_movesAt 36 = .ok (.istore_n 3, 1) := by decide +kernel
theorem dX6_movesAt_37 : decode cX6_movesAt 37 = .ok (.iinc 4 1, 3) := by decide +kernel
theorem dX6_movesAt_40 : decode cX6_movesAt 40 = .ok (.goto (-35), 3) := by decide +kernel
theorem dX6_movesAt_43 : decode cX6_movesAt 43 = .ok (.iload_n 3, 1) := by decide +kernel
theorem dX6_movesAt_44 : decode cX6_movesAt 44 = .ok (.ireturn, 1) := by decide +kernel
theorem dX6_greatestCall_0 : decode cX6_greatestCall 0 = .ok (.iconst 0, 1) := by decide +kernel
theorem dX6_greatestCall_1 : decode cX6_greatestCall 1 = .ok (.istore_n 1, 1) := by decide +kernel
theorem dX6_greatestCall_2 : decode cX6_greatestCall 2 = .ok (.iconst 0, 1) := by decide +kernel
theorem dX6_greatestCall_3 : decode cX6_greatestCall 3 = .ok (.istore_n 2, 1) := by decide +kernel
theorem dX6_greatestCall_4 : decode cX6_greatestCall 4 = .ok (.iload_n 2, 1) := by decide +kernel
theorem dX6_greatestCall_5 : decode cX6_greatestCall 5 = .ok (.aload_n 0, 1) := by decide +kernel
theorem dX6_greatestCall_6 : decode cX6_greatestCall 6 = .ok (.getfield 13, 3) := by decide +kernel
theorem dX6_greatestCall_9 : decode cX6_greatestCall 9 = .ok (.iconst 0, 1) := by decide +kernel
theorem dX6_greatestCall_10 : decode cX6_greatestCall 10 = .ok (.iaload, 1) := by decide +kernel
theorem dX6_greatestCall_11 : decode cX6_greatestCall 11 = .ok (.if_icmp .ge 36, 3) := by decide +kernel
theorem dX6_greatestCall_14 : decode cX6_greatestCall 14 = .ok (.aload_n 0, 1) := by decide +kernel
theorem dX6_greatestCall_15 : decode cX6_greatestCall 15 = .ok (.getfield 13, 3) := by decide +kernel
theorem dX6_greatestCall_18 : decode cX6_greatestCall 18 = .ok (.bipush 24, 2) := by decide +kernel
theorem dX6_greatestCall_20 : decode cX6_greatestCall 20 = .ok (.iload_n 2, 1) := by decide +kernel
theorem dX6_greatestCall_21 : decode cX6_greatestCall 21 = .ok (.iadd, 1) := by decide +kernel
theorem dX6_greatestCall_22 : decode cX6_greatestCall 22 = .ok (.iaload, 1) := by decide +kernel
theorem dX6_greatestCall_23 : decode cX6_greatestCall 23 = .ok (.iload_n 1, 1) := by decide +kernel
theorem dX6_greatestCall_24 : decode cX6_greatestCall 24 = .ok (.if_icmp .le 15, 3) := by decide +kernel
theorem dX6_greatestCall_27 : decode cX6_greatestCall 27 = .ok (.aload_n 0, 1) := by decide +kernel
theorem dX6_greatestCall_28 : decode cX6_greatestCall 28 = .ok (.getfield 13, 3) := by decide +kernel
theorem dX6_greatestCall_31 : decode cX6_greatestCall 31 = .ok (.bipush 24, 2) := by decide +kernel
theorem dX6_greatestCall_33 : decode cX6_greatestCall 33 = .ok (.iload_n 2, 1) := by decide +kernel
theorem dX6_greatestCall_34 : decode cX6_greatestCall 34 = .ok (.iadd, 1) := by decide +kernel
theorem dX6_greatestCall_35 : decode cX6_greatestCall 35 = .ok (.iaload, 1) := by decide +kernel
theorem dX6_greatestCall_36 : decode cX6_greatestCall 36 = .ok (.goto 4, 3) := by decide +kernel
theorem dX6_greatestCall_39 : decode cX6_greatestCall 39 = .ok (.iload_n 1, 1) := by decide +kernel
theorem dX6_greatestCall_40 : decode cX6_greatestCall 40 = .ok (.istore_n 1, 1) := by decide +kernel
theorem dX6_greatestCall_41 : decode cX6_greatestCall 41 = .ok (.iinc 2 1, 3) := by decide +kernel
theorem dX6_greatestCall_44 : decode cX6_greatestCall 44 = .ok (.goto (-40), 3) := by decide +kernel
theorem dX6_greatestCall_47 : decode cX6_greatestCall 47 = .ok (.iload_n 1, 1) := by decide +kernel
theorem dX6_greatestCall_48 : decode cX6_greatestCall 48 = .ok (.ireturn, 1) := by decide +kernel
theorem dX6_size_0 : decode cX6_size 0 = .ok (.iload_n 1, 1) := by decide +kernel
theorem dX6_size_1 : decode cX6_size 1 = .ok (.iconst 0, 1) := by decide +kernel
theorem dX6_size_2 : decode cX6_size 2 = .ok (.bipush 7, 2) := by decide +kernel
theorem dX6_size_4 : decode cX6_size 4 = .ok (.invokestatic 68, 3) := by decide +kernel
theorem dX6_size_7 : decode cX6_size 7 = .ok (.ifCond .ne 9, 3) := by decide +kernel
theorem dX6_size_10 : decode cX6_size 10 = .ok (.aload_n 0, 1) := by decide +kernel
theorem dX6_size_11 : decode cX6_size 11 = .ok (.iconst 1, 1) := by decide +kernel
theorem dX6_size_12 : decode cX6_size 12 = .ok (.invokevirtual 197, 3) := by decide +kernel
theorem dX6_size_15 : decode cX6_size 15 = .ok (.ireturn, 1) := by decide +kernel
theorem dX6_size_16 : decode cX6_size 16 = .ok (.iload_n 1, 1) := by decide +kernel
theorem dX6_size_17 : decode cX6_size 17 = .ok (.iconst 2, 1) := by decide +kernel
theorem dX6_size_18 : decode cX6_size 18 = .ok (.if_icmp .lt 8, 3) := by decide +kernel
theorem dX6_size_21 : decode cX6_size 21 = .ok (.iload_n 1, 1) := by decide +kernel
theorem dX6_size_22 : decode cX6_size 22 = .ok (.iconst 4, 1) := by decide +kernel
theorem dX6_size_23 : decode cX6_size 23 = .ok (.if_icmp .le 47, 3) := by decide +kernel
theorem dX6_size_26 : decode cX6_size 26 = .ok (.aload_n 0, 1) := by decide +kernel
theorem dX6_size_27 : decode cX6_size 27 = .ok (.iload_n 1, 1) := by decide +kernel
theorem dX6_size_28 : decode cX6_size 28 = .ok (.iconst 2, 1) := by decide +kernel
theorem dX6_size_29 : decode cX6_size 29 = .ok (.if_icmp .ge 14, 3) := by decide +kernel
theorem dX6_size_32 : decode cX6_size 32 = .ok (.aload_n 0, 1) := by decide +kernel
theorem dX6_size_33 : decode cX6_size 33 = .ok (.getfield 13, 3) := by decide +kernel
theorem dX6_size_36 : decode cX6_size 36 = .ok (.iconst 0, 1) := by decide +kernel
theorem dX6_size_37 : decode cX6_size 37 = .ok (.iload_n 1, 1) := by decide +kernel
theorem dX6_size_38 : decode cX6_size 38 = .ok (.iadd, 1) := by decide +kernel
theorem dX6_size_39 : decode cX6_size 39 = .ok (.iaload, 1) := by decide +kernel
theorem dX6_size_40 : decode cX6_size 40 = .ok (.goto 26, 3) := by decide +kernel
theorem dX6_size_43 : decode cX6_size 43 = .ok (.iload_n 1, 1) := by decide +kernel
theorem dX6_size_44 : decode cX6_size 44 = .ok (.iconst 5, 1) := by decide +kernel
theorem dX6_size_45 : decode cX6_size 45 = .ok (.if_icmp .ne 10, 3) := by decide +kernel
theorem dX6_size_48 : decode cX6_size 48 = .ok (.aload_n 0, 1) := by decide +kernel
theorem dX6_size_49 : decode cX6_size 49 = .ok (.invokevirtual 221, 3) := by decide +kernel
theorem dX6_size_52 : decode cX6_size 52 = .ok (.goto 14, 3) := by decide +kernel
theorem dX6_size_55 : decode cX6_size 55 = .ok (.aload_n 0, 1) := by decide +kernel
theorem dX6_size_56 : decode cX6_size 56 = .ok (.getfield 13, 3) := by decide +kernel
theorem dX6_size_59 : decode cX6_size 59 = .ok (.iconst 2, 1) := by decide +kernel
theorem dX6_size_60 : decode cX6_size 60 = .ok (.iload_n 1, 1) := by decide +kernel
theorem dX6_size_61 : decode cX6_size 61 = .ok (.iadd, 1) := by decide +kernel
theorem dX6_size_62 : decode cX6_size 62 = .ok (.bipush 6, 2) := by decide +kernel
theorem dX6_size_64 : decode cX6_size 64 = .ok (.isub, 1) := by decide +kernel
theorem dX6_size_65 : decode cX6_size 65 = .ok (.iaload, 1) := by decide +kernel
theorem dX6_size_66 : decode cX6_size 66 = .ok (.invokevirtual 203, 3) := by decide +kernel
theorem dX6_size_69 : decode cX6_size 69 = .ok (.ireturn, 1) := by decide +kernel
theorem dX6_size_70 : decode cX6_size 70 = .ok (.iconst 0, 1) := by decide +kernel
theorem dX6_size_71 : decode cX6_size 71 = .ok (.istore_n 2, 1) := by decide +kernel
theorem dX6_size_72 : decode cX6_size 72 = .ok (.iconst 0, 1) := by decide +kernel
theorem dX6_size_73 : decode cX6_size 73 = .ok (.istore_n 3, 1) := by decide +kernel
theorem dX6_size_74 : decode cX6_size 74 = .ok (.iconst 0, 1) := by decide +kernel
theorem dX6_size_75 : decode cX6_size 75 = .ok (.istore 4, 2) := by decide +kernel
theorem dX6_size_77 : decode cX6_size 77 = .ok (.iload 4, 2) := by decide +kernel
theorem dX6_size_79 : decode cX6_size 79 = .ok (.aload_n 0, 1) := by decide +kernel
theorem dX6_size_80 : decode cX6_size 80 = .ok (.getfield 13, 3) := by decide +kernel
theorem dX6_size_83 : decode cX6_size 83 = .ok (.iconst 0, 1) := by decide +kernel
theorem dX6_size_84 : decode cX6_size 84 = .ok (.iaload, 1) := by decide +kernel
theorem dX6_size_85 : decode cX6_size 85 = .ok (.if_icmp .ge 65, 3) := by decide +kernel
theorem dX6_size_88 : decode cX6_size 88 = .ok (.iload_n 2, 1) := by decide +kernel
theorem dX6_size_89 : decode cX6_size 89 = .ok (.iconst 1, 1) := by decide +kernel
theorem dX6_size_90 : decode cX6_size 90 = .ok (.aload_n 0, 1) := by decide +kernel
theorem dX6_size_91 : decode cX6_size 91 = .ok (.getfield 13, 3) := by decide +kernel
theorem dX6_size_94 : decode cX6_size 94 = .ok (.bipush 24, 2) := by decide +kernel
theorem dX6_size_96 : decode cX6_size 96 = .ok (.iload 4, 2) := by decide +kernel
theorem dX6_size_98 : decode cX6_size 98 = .ok (.iadd, 1) := by decide +kernel
theorem dX6_size_99 : decode cX6_size 99 = .ok (.iaload, 1) := by decide +kernel
theorem dX6_size_100 : decode cX6_size 100 = .ok (.ishl, 1) := by decide +kernel
theorem dX6_size_101 : decode cX6_size 101 = .ok (.ior, 1) := by decide +kernel
theorem dX6_size_102 : decode cX6_size 102 = .ok (.istore_n 2, 1) := by decide +kernel
theorem dX6_size_103 : decode cX6_size 103 = .ok (.iload_n 3, 1) := by decide +kernel
theorem dX6_size_104 : decode cX6_size 104 = .ok (.iload_n 1, 1) := by decide +kernel
theorem dX6_size_105 : decode cX6_size 105 = .ok (.iconst 2, 1) := by decide +kernel
theorem dX6_size_106 : decode cX6_size 106 = .ok (.if_icmp .ne 15, 3) := by decide +kernel
theorem dX6_size_109 : decode cX6_size 109 = .ok (.aload_n 0, 1) := by decide +kernel
theorem dX6_size_110 : decode cX6_size 110 = .ok (.getfield 13, 3) := by decide +kernel
theorem dX6_size_113 : decode cX6_size 113 = .ok (.iconst 4, 1) := by decide +kernel
theorem dX6_size_114 : decode cX6_size 114 = .ok (.iload 4, 2) := by decide +kernel
theorem dX6_size_116 : decode cX6_size 116 = .ok (.iadd, 1) := by decide +kernel
theorem dX6_size_117 : decode cX6_size 117 = .ok (.iaload, 1) := by decide +kernel
theorem dX6_size_118 : decode cX6_size 118 = .ok (.ifCond .eq 19, 3) := by decide +kernel
theorem dX6_size_121 : decode cX6_size 121 = .ok (.iload_n 1, 1) := by decide +kernel
theorem dX6_size_122 : decode cX6_size 122 = .ok (.iconst 3, 1) := by decide +kernel
theorem dX6_size_123 : decode cX6_size 123 = .ok (.if_icmp .ne 18, 3) := by decide +kernel
theorem dX6_size_126 : decode cX6_size 126 = .ok (.aload_n 0, 1) := by decide +kernel
theorem dX6_size_127 : decode cX6_size 127 = .ok (.iload 4, 2) := by decide +kernel
theorem dX6_size_129 : decode cX6_size 129 = .ok (.bipush 44, 2) := by decide +kernel
theorem dX6_size_131 : decode cX6_size 131 = .ok (.invokevirtual 224, 3) := by decide +kernel
theorem dX6_size_134 : decode cX6_size 134 = .ok (.ifCond .ne 7, 3) := by decide +kernel
theorem dX6_size_137 : decode cX6_size 137 = .ok (.iconst 1, 1) := by decide +kernel
theorem dX6_size_138 : decode cX6_size 138 = .ok (.goto 4, 3) := by decide +kernel
theorem dX6_size_141 : decode cX6_size 141 = .ok (.iconst 0, 1) := by decide +kernel
theorem dX6_size_142 : decode cX6_size 142 = .ok (.iadd, 1) := by decide +kernel
theorem dX6_size_143 : decode cX6_size 143 = .ok (.istore_n 3, 1) := by decide +kernel
theorem dX6_size_144 : decode cX6_size 144 = .ok (.iinc 4 1, 3) := by decide +kernel
theorem dX6_size_147 : decode cX6_size 147 = .ok (.goto (-70), 3) := by decide +kernel
theorem dX6_size_150 : decode cX6_size 150 = .ok (.iconst 0, 1) := by decide +kernel
theorem dX6_size_151 : decode cX6_size 151 = .ok (.istore 4, 2) := by decide +kernel
theorem dX6_size_153 : decode cX6_size 153 = .ok (.iload 4, 2) := by decide +kernel
theorem dX6_size_155 : decode cX6_size 155 = .ok (.bipush 10, 2) := by decide +kernel
theorem dX6_size_157 : decode cX6_size 157 = .ok (.if_icmp .ge 23, 3) := by decide +kernel
theorem dX6_size_160 : decode cX6_size 160 = .ok (.iload_n 1, 1) := by decide +kernel
theorem dX6_size_161 : decode cX6_size 161 = .ok (.iconst 4, 1) := by decide +kernel
theorem dX6_size_162 : decode cX6_size 162 = .ok (.if_icmp .ne 18, 3) := by decide +kernel
theorem dX6_size_165 : decode cX6_size 165 = .ok (.iload_n 3, 1) := by decide +kernel
theorem dX6_size_166 : decode cX6_size 166 = .ok (.iload_n 2, 1) := by decide +kernel
theorem dX6_size_167 : decode cX6_size 167 = .ok (.iload 4, 2) := by decide +kernel
theorem dX6_size_169 : decode cX6_size 169 = .ok (.ishr, 1) := by decide +kernel
theorem dX6_size_170 : decode cX6_size 170 = .ok (.iconst 1, 1) := by decide +kernel
theorem dX6_size_171 : decode cX6_size 171 = .ok (.iand, 1) := by decide +kernel
theorem dX6_size_172 : decode cX6_size 172 = .ok (.iadd, 1) := by decide +kernel
theorem dX6_size_173 : decode cX6_size 173 = .ok (.istore_n 3, 1) := by decide +kernel
theorem dX6_size_174 : decode cX6_size 174 = .ok (.iinc 4 1, 3) := by decide +kernel
theorem dX6_size_177 : decode cX6_size 177 = .ok (.goto (-24), 3) := by decide +kernel
theorem dX6_size_180 : decode cX6_size 180 = .ok (.aload_n 0, 1) := by decide +kernel
theorem dX6_size_181 : decode cX6_size 181 = .ok (.iload_n 3, 1) := by decide +kernel
theorem dX6_size_182 : decode cX6_size 182 = .ok (.invokevirtual 203, 3) := by decide +kernel
theorem dX6_size_185 : decode cX6_size 185 = .ok (.ireturn, 1) := by decide +kernel
theorem dX6_winner_0 : decode cX6_winner 0 = .ok (.aload_n 0, 1) := by decide +kernel
theorem dX6_winner_1 : decode cX6_winner 1 = .ok (.invokevirtual 96, 3) := by decide +kernel
theorem dX6_winner_4 : decode cX6_winner 4 = .ok (.iload_n 1, 1) := by decide +kernel
theorem dX6_winner_5 : decode cX6_winner 5 = .ok (.invokestatic 102, 3) := by decide +kernel
theorem dX6_winner_8 : decode cX6_winner 8 = .ok (.ifCond .eq 7, 3) := by decide +kernel
theorem dX6_winner_11 : decode cX6_winner 11 = .ok (.iconst 0, 1) := by decide +kernel
theorem dX6_winner_12 : decode cX6_winner 12 = .ok (.goto 4, 3) := by decide +kernel
theorem dX6_winner_15 : decode cX6_winner 15 = .ok (.iconst 1, 1) := by decide +kernel
theorem dX6_winner_16 : decode cX6_winner 16 = .ok (.ireturn, 1) := by decide +kernel
theorem dX6_place_0 : decode cX6_place 0 = .ok (.aload_n 0, 1) := by decide +kernel
theorem dX6_place_1 : decode cX6_place 1 = .ok (.iload_n 1, 1) := by decide +kernel
theorem dX6_place_2 : decode cX6_place 2 = .ok (.invokevirtual 173, 3) := by decide +kernel
theorem dX6_place_5 : decode cX6_place 5 = .ok (.ifCond .ne 9, 3) := by decide +kernel
theorem dX6_place_8 : decode cX6_place 8 = .ok (.aload_n 0, 1) := by decide +kernel
theorem dX6_place_9 : decode cX6_place 9 = .ok (.iconst 1, 1) := by decide +kernel
theorem dX6_place_10 : decode cX6_place 10 = .ok (.invokevirtual 197, 3) := by decide +kernel
theorem dX6_place_13 : decode cX6_place 13 = .ok (.ireturn, 1) := by decide +kernel
theorem dX6_place_14 : decode cX6_place 14 = .ok (.iload_n 2, 1) := by decide +kernel
theorem dX6_place_15 : decode cX6_place 15 = .ok (.iconst 0, 1) := by decide +kernel
theorem dX6_place_16 : decode cX6_place 16 = .ok (.iconst 4, 1) := by decide +kernel
theorem dX6_place_17 : decode cX6_place 17 = .ok (.invokestatic 68, 3) := by decide +kernel
theorem dX6_place_20 : decode cX6_place 20 = .ok (.ifCond .ne 9, 3) := by decide +kernel
theorem dX6_place_23 : decode cX6_place 23 = .ok (.aload_n 0, 1) := by decide +kernel
theorem dX6_place_24 : decode cX6_place 24 = .ok (.iconst 2, 1) := by decide +kernel
theorem dX6_place_25 : decode cX6_place 25 = .ok (.invokevirtual 197, 3) := by decide +kernel
theorem dX6_place_28 : decode cX6_place 28 = .ok (.ireturn, 1) := by decide +kernel
theorem dX6_place_29 : decode cX6_place 29 = .ok (.iload_n 2, 1) := by decide +kernel
theorem dX6_place_30 : decode cX6_place 30 = .ok (.iconst 2, 1) := by decide +kernel
theorem dX6_place_31 : decode cX6_place 31 = .ok (.if_icmp .ge 25, 3) := by decide +kernel
theorem dX6_place_34 : decode cX6_place 34 = .ok (.aload_n 0, 1) := by decide +kernel
theorem dX6_place_35 : decode cX6_place 35 = .ok (.aload_n 0, 1) := by decide +kernel
theorem dX6_place_36 : decode cX6_place 36 = .ok (.getfield 13, 3) := by decide +kernel
theorem dX6_place_39 : decode cX6_place 39 = .ok (.iload_n 2, 1) := by decide +kernel
theorem dX6_place_40 : decode cX6_place 40 = .ok (.ifCond .ne 7, 3) := by decide +kernel
theorem dX6_place_43 : decode cX6_place 43 = .ok (.iconst 4, 1) := by decide +kernel
theorem dX6_place_44 : decode cX6_place 44 = .ok (.goto 5, 3) := by decide +kernel
theorem dX6_place_47 : decode cX6_place 47 = .ok (.bipush 24, 2) := by decide +kernel
theorem dX6_place_49 : decode cX6_place 49 = .ok (.iload_n 1, 1) := by decide +kernel
theorem dX6_place_50 : decode cX6_place 50 = .ok (.iadd, 1) := by decide +kernel
theorem dX6_place_51 : decode cX6_place 51 = .ok (.iaload, 1) := by decide +kernel
theorem dX6_place_52 : decode cX6_place 52 = .ok (.invokevirtual 203, 3) := by decide +kernel
theorem dX6_place_55 : decode cX6_place 55 = .ok (.ireturn, 1) := by decide +kernel
theorem dX6_place_56 : decode cX6_place 56 = .ok (.aload_n 0, 1) := by decide +kernel
theorem dX6_place_57 : decode cX6_place 57 = .ok (.iload_n 2, 1) := by decide +kernel
theorem dX6_place_58 : decode cX6_place 58 = .ok (.iconst 4, 1) := by decide +kernel
theorem dX6_place_59 : decode cX6_place 59 = .ok (.if_icmp .ne 11, 3) := by decide +kernel
theorem dX6_place_62 : decode cX6_place 62 = .ok (.aload_n 0, 1) := by decide +kernel
theorem dX6_place_63 : decode cX6_place 63 = .ok (.iload_n 1, 1) := by decide +kernel
theorem dX6_place_64 : decode cX6_place 64 = .ok (.invokevirtual 227, 3) := by decide +kernel
theorem dX6_place_67 : decode cX6_place 67 = .ok (.goto 20, 3) := by decide +kernel
theorem dX6_place_70 : decode cX6_place 70 = .ok (.aload_n 0, 1) := by decide +kernel
theorem dX6_place_71 : decode cX6_place 71 = .ok (.iload_n 1, 1) := by decide +kernel
theorem dX6_place_72 : decode cX6_place 72 = .ok (.iload_n 2, 1) := by decide +kernel
theorem dX6_place_73 : decode cX6_place 73 = .ok (.iconst 2, 1) := by decide +kernel
theorem dX6_place_74 : decode cX6_place 74 = .ok (.if_icmp .ne 8, 3) := by decide +kernel
theorem dX6_place_77 : decode cX6_place 77 = .ok (.bipush 44, 2) := by decide +kernel
theorem dX6_place_79 : decode cX6_place 79 = .ok (.goto 5, 3) := by decide +kernel
theorem dX6_place_82 : decode cX6_place 82 = .ok (.bipush 105, 2) := by decide +kernel
theorem dX6_place_84 : decode cX6_place 84 = .ok (.invokevirtual 224, 3) := by decide +kernel
theorem dX6_place_87 : decode cX6_place 87 = .ok (.invokevirtual 203, 3) := by decide +kernel
theorem dX6_place_90 : decode cX6_place 90 = .ok (.ireturn, 1) := by decide +kernel
theorem dX6_move_0 : decode cX6_move 0 = .ok (.aload_n 0, 1) := by decide +kernel
theorem dX6_move_1 : decode cX6_move 1 = .ok (.iload_n 1, 1) := by decide +kernel
theorem dX6_move_2 : decode cX6_move 2 = .ok (.invokevirtual 230, 3) := by decide +kernel
theorem dX6_move_5 : decode cX6_move 5 = .ok (.ifCond .ne 9, 3) := by decide +kernel
theorem dX6_move_8 : decode cX6_move 8 = .ok (.aload_n 0, 1) := by decide +kernel
theorem dX6_move_9 : decode cX6_move 9 = .ok (.iconst 1, 1) := by decide +kernel
theorem dX6_move_10 : decode cX6_move 10 = .ok (.invokevirtual 197, 3) := by decide +kernel
theorem dX6_move_13 : decode cX6_move 13 = .ok (.ireturn, 1) := by decide +kernel
theorem dX6_move_14 : decode cX6_move 14 = .ok (.iload_n 2, 1) := by decide +kernel
theorem dX6_move_15 : decode cX6_move 15 = .ok (.iconst 0, 1) := by decide +kernel
theorem dX6_move_16 : decode cX6_move 16 = .ok (.iconst 1, 1) := by decide +kernel
theorem dX6_move_17 : decode cX6_move 17 = .ok (.invokestatic 68, 3) := by decide +kernel
theorem dX6_move_20 : decode cX6_move 20 = .ok (.ifCond .ne 9, 3) := by decide +kernel
theorem dX6_move_23 : decode cX6_move 23 = .ok (.aload_n 0, 1) := by decide +kernel
theorem dX6_move_24 : decode cX6_move 24 = .ok (.iconst 2, 1) := by decide +kernel
theorem dX6_move_25 : decode cX6_move 25 = .ok (.invokevirtual 197, 3) := by decide +kernel
theorem dX6_move_28 : decode cX6_move 28 = .ok (.ireturn, 1) := by decide +kernel
theorem dX6_move_29 : decode cX6_move 29 = .ok (.aload_n 0, 1) := by decide +kernel
theorem dX6_move_30 : decode cX6_move 30 = .ok (.aload_n 0, 1) := by decide +kernel
theorem dX6_move_31 : decode cX6_move 31 = .ok (.getfield 13, 3) := by decide +kernel
theorem dX6_move_34 : decode cX6_move 34 = .ok (.iload_n 2, 1) := by decide +kernel
theorem dX6_move_35 : decode cX6_move 35 = .ok (.ifCond .ne 8, 3) := by decide +kernel
theorem dX6_move_38 : decode cX6_move 38 = .ok (.bipush 44, 2) := by decide +kernel
theorem dX6_move_40 : decode cX6_move 40 = .ok (.goto 5, 3) := by decide +kernel
theorem dX6_move_43 : decode cX6_move 43 = .ok (.bipush 105, 2) := by decide +kernel
theorem dX6_move_45 : decode cX6_move 45 = .ok (.iload_n 1, 1) := by decide +kernel
theorem dX6_move_46 : decode cX6_move 46 = .ok (.iadd, 1) := by decide +kernel
theorem dX6_move_47 : decode cX6_move 47 = .ok (.iaload, 1) := by decide +kernel
theorem dX6_move_48 : decode cX6_move 48 = .ok (.invokevirtual 203, 3) := by decide +kernel
theorem dX6_move_51 : decode cX6_move 51 = .ok (.ireturn, 1) := by decide +kernel
theorem dX6_moveBetween_0 : decode cX6_moveBetween 0 = .ok (.aload_n 0, 1) := by decide +kernel
theorem dX6_moveBetween_1 : decode cX6_moveBetween 1 = .ok (.iload_n 1, 1) := by decide +kernel
theorem dX6_moveBetween_2 : decode cX6_moveBetween 2 = .ok (.invokevirtual 173, 3) := by decide +kernel
theorem dX6_moveBetween_5 : decode cX6_moveBetween 5 = .ok (.ifCond .eq 11, 3) := by decide +kernel
theorem dX6_moveBetween_8 : decode cX6_moveBetween 8 = .ok (.aload_n 0, 1) := by decide +kernel
theorem dX6_moveBetween_9 : decode cX6_moveBetween 9 = .ok (.iload_n 2, 1) := by decide +kernel
theorem dX6_moveBetween_10 : decode cX6_moveBetween 10 = .ok (.invokevirtual 173, 3) := by decide +kernel
theorem dX6_moveBetween_13 : decode cX6_moveBetween 13 = .ok (.ifCond .ne 9, 3) := by decide +kernel
theorem dX6_moveBetween_16 : decode cX6_moveBetween 16 = .ok (.aload_n 0, 1) := by decide +kernel
theorem dX6_moveBetween_17 : decode cX6_moveBetween 17 = .ok (.iconst 1, 1) := by decide +kernel
theorem dX6_moveBetween_18 : decode cX6_moveBetween 18 = .ok (.invokevirtual 197, 3) := by decide +kernel
theorem dX6_moveBetween_21 : decode cX6_moveBetween 21 = .ok (.ireturn, 1) := by decide +kernel
theorem dX6_moveBetween_22 : decode cX6_moveBetween 22 = .ok (.aload_n 0, 1) := by decide +kernel
theorem dX6_moveBetween_23 : decode cX6_moveBetween 23 = .ok (.aload_n 0, 1) := by decide +kernel
theorem dX6_moveBetween_24 : decode cX6_moveBetween 24 = .ok (.iload_n 1, 1) := by decide +kernel
theorem dX6_moveBetween_25 : decode cX6_moveBetween 25 = .ok (.iload_n 2, 1) := by decide +kernel
theorem dX6_moveBetween_26 : decode cX6_moveBetween 26 = .ok (.invokevirtual 179, 3) := by decide +kernel
theorem dX6_moveBetween_29 : decode cX6_moveBetween 29 = .ok (.invokevirtual 203, 3) := by decide +kernel
theorem dX6_moveBetween_32 : decode cX6_moveBetween 32 = .ok (.ireturn, 1) := by decide +kernel
theorem dX6_heard_0 : decode cX6_heard 0 = .ok (.iload_n 1, 1) := by decide +kernel
theorem dX6_heard_1 : decode cX6_heard 1 = .ok (.iconst 0, 1) := by decide +kernel
theorem dX6_heard_2 : decode cX6_heard 2 = .ok (.bipush 9, 2) := by decide +kernel
theorem dX6_heard_4 : decode cX6_heard 4 = .ok (.invokestatic 68, 3) := by decide +kernel
theorem dX6_heard_7 : decode cX6_heard 7 = .ok (.ifCond .ne 9, 3) := by decide +kernel
theorem dX6_heard_10 : decode cX6_heard 10 = .ok (.aload_n 0, 1) := by decide +kernel
theorem dX6_heard_11 : decode cX6_heard 11 = .ok (.iconst 1, 1) := by decide +kernel
theorem dX6_heard_12 : decode cX6_heard 12 = .ok (.invokevirtual 197, 3) := by decide +kernel
theorem dX6_heard_15 : decode cX6_heard 15 = .ok (.ireturn, 1) := by decide +kernel
theorem dX6_heard_16 : decode cX6_heard 16 = .ok (.aload_n 0, 1) := by decide +kernel
theorem dX6_heard_17 : decode cX6_heard 17 = .ok (.aload_n 0, 1) := by decide +kernel
theorem dX6_heard_18 : decode cX6_heard 18 = .ok (.getfield 13, 3) := by decide +kernel
theorem dX6_heard_21 : decode cX6_heard 21 = .ok (.sipush 166, 3) := by decide +kernel
theorem dX6_heard_24 : decode cX6_heard 24 = .ok (.iload_n 1, 1) := by decide +kernel
theorem dX6_heard_25 : decode cX6_heard 25 = .ok (.iadd, 1) := by decide +kernel
theorem dX6_heard_26 : decode cX6_heard 26 = .ok (.iaload, 1) := by decide +kernel
theorem dX6_heard_27 : decode cX6_heard 27 = .ok (.invokevirtual 203, 3) := by decide +kernel
theorem dX6_heard_30 : decode cX6_heard 30 = .ok (.ireturn, 1) := by decide +kernel
theorem dX6_many_0 : decode cX6_many 0 = .ok (.iconst 0, 1) := by decide +kernel
theorem dX6_many_1 : decode cX6_many 1 = .ok (.istore_n 1, 1) := by decide +kernel
theorem dX6_many_2 : decode cX6_many 2 = .ok (.iload_n 0, 1) := by decide +kernel
theorem dX6_many_3 : decode cX6_many 3 = .ok (.istore_n 2, 1) := by decide +kernel
theorem dX6_many_4 : decode cX6_many 4 = .ok (.iload_n 2, 1) := by decide +kernel
theorem dX6_many_5 : decode cX6_many 5 = .ok (.ifCond .eq 15, 3) := by decide +kernel
theorem dX6_many_8 : decode cX6_many 8 = .ok (.iinc 1 1, 3) := by decide +kernel
theorem dX6_many_11 : decode cX6_many 11 = .ok (.iload_n 2, 1) := by decide +kernel
theorem dX6_many_12 : decode cX6_many 12 = .ok (.iload_n 2, 1) := by decide +kernel
theorem dX6_many_13 : decode cX6_many 13 = .ok (.iconst 1, 1) := by decide +kernel
theorem dX6_many_14 : decode cX6_many 14 = .ok (.isub, 1) := by decide +kernel
theorem dX6_many_15 : decode cX6_many 15 = .ok (.iand, 1) := by decide +kernel
theorem dX6_many_16 : decode cX6_many 16 = .ok (.istore_n 2, 1) := by decide +kernel
theorem dX6_many_17 : decode cX6_many 17 = .ok (.goto (-13), 3) := by decide +kernel
theorem dX6_many_20 : decode cX6_many 20 = .ok (.iload_n 1, 1) := by decide +kernel
theorem dX6_many_21 : decode cX6_many 21 = .ok (.ireturn, 1) := by decide +kernel
theorem dX6_won_0 : decode cX6_won 0 = .ok (.iload_n 1, 1) := by decide +kernel
theorem dX6_won_1 : decode cX6_won 1 = .ok (.iconst 0, 1) := by decide +kernel
theorem dX6_won_2 : decode cX6_won 2 = .ok (.iconst 1, 1) := by decide +kernel
theorem dX6_won_3 : decode cX6_won 3 = .ok (.invokestatic 68, 3) := by decide +kernel
theorem dX6_won_6 : decode cX6_won 6 = .ok (.ifCond .ne 9, 3) := by decide +kernel
theorem dX6_won_9 : decode cX6_won 9 = .ok (.aload_n 0, 1) := by decide +kernel
theorem dX6_won_10 : decode cX6_won 10 = .ok (.iconst 1, 1) := by decide +kernel
theorem dX6_won_11 : decode cX6_won 11 = .ok (.invokevirtual 197, 3) := by decide +kernel
theorem dX6_won_14 : decode cX6_won 14 = .ok (.ireturn, 1) := by decide +kernel
theorem dX6_won_15 : decode cX6_won 15 = .ok (.aload_n 0, 1) := by decide +kernel
theorem dX6_won_16 : decode cX6_won 16 = .ok (.aload_n 0, 1) := by decide +kernel
theorem dX6_won_17 : decode cX6_won 17 = .ok (.iload_n 1, 1) := by decide +kernel
theorem dX6_won_18 : decode cX6_won 18 = .ok (.invokevirtual 233, 3) := by decide +kernel
theorem dX6_won_21 : decode cX6_won 21 = .ok (.invokevirtual 203, 3) := by decide +kernel
theorem dX6_won_24 : decode cX6_won 24 = .ok (.ireturn, 1) := by decide +kernel
theorem dX6_shareOf_0 : decode cX6_shareOf 0 = .ok (.aload_n 0, 1) := by decide +kernel
theorem dX6_shareOf_1 : decode cX6_shareOf 1 = .ok (.iload_n 1, 1) := by decide +kernel
theorem dX6_shareOf_2 : decode cX6_shareOf 2 = .ok (.invokevirtual 233, 3) := by decide +kernel
theorem dX6_shareOf_5 : decode cX6_shareOf 5 = .ok (.invokestatic 236, 3) := by decide +kernel
theorem dX6_shareOf_8 : decode cX6_shareOf 8 = .ok (.i2f, 1) := by decide +kernel
theorem dX6_shareOf_9 : decode cX6_shareOf 9 = .ok (.aload_n 0, 1) := by decide +kernel
theorem dX6_shareOf_10 : decode cX6_shareOf 10 = .ok (.getfield 13, 3) := by decide +kernel
theorem dX6_shareOf_13 : decode cX6_shareOf 13 = .ok (.iconst 0, 1) := by decide +kernel
theorem dX6_shareOf_14 : decode cX6_shareOf 14 = .ok (.iaload, 1) := by decide +kernel
theorem dX6_shareOf_15 : decode cX6_shareOf 15 = .ok (.i2f, 1) := by decide +kernel
theorem dX6_shareOf_16 : decode cX6_shareOf 16 = .ok (.fdiv, 1) := by decide +kernel
theorem dX6_shareOf_17 : decode cX6_shareOf 17 = .ok (.freturn, 1) := by decide +kernel
theorem dX6_wonShare_0 : decode cX6_wonShare 0 = .ok (.iload_n 1, 1) := by decide +kernel
theorem dX6_wonShare_1 : decode cX6_wonShare 1 = .ok (.iconst 0, 1) := by decide +kernel
theorem dX6_wonShare_2 : decode cX6_wonShare 2 = .ok (.iconst 1, 1) := by decide +kernel
theorem dX6_wonShare_3 : decode cX6_wonShare 3 = .ok (.invokestatic 68, 3) := by decide +kernel
theorem dX6_wonShare_6 : decode cX6_wonShare 6 = .ok (.ifCond .ne 10, 3) := by decide +kernel
theorem dX6_wonShare_9 : decode cX6_wonShare 9 = .ok (.aload_n 0, 1) := by decide +kernel
theorem dX6_wonShare_10 : decode cX6_wonShare 10 = .ok (.iconst 1, 1) := by decide +kernel
theorem dX6_wonShare_11 : decode cX6_wonShare 11 = .ok (.putfield 65, 3) := by decide +kernel
theorem dX6_wonShare_14 : decode cX6_wonShare 14 = .ok (.fconst 0, 1) := by decide +kernel
theorem dX6_wonShare_15 : decode cX6_wonShare 15 = .ok (.freturn, 1) := by decide +kernel
theorem dX6_wonShare_16 : decode cX6_wonShare 16 = .ok (.aload_n 0, 1) := by decide +kernel
theorem dX6_wonShare_17 : decode cX6_wonShare 17 = .ok (.iconst 0, 1) := by decide +kernel
theorem dX6_wonShare_18 : decode cX6_wonShare 18 = .ok (.putfield 65, 3) := by decide +kernel
theorem dX6_wonShare_21 : decode cX6_wonShare 21 = .ok (.aload_n 0, 1) := by decide +kernel
theorem dX6_wonShare_22 : decode cX6_wonShare 22 = .ok (.iload_n 1, 1) := by decide +kernel
theorem dX6_wonShare_23 : decode cX6_wonShare 23 = .ok (.invokevirtual 239, 3) := by decide +kernel
theorem dX6_wonShare_26 : decode cX6_wonShare 26 = .ok (.freturn, 1) := by decide +kernel
theorem dX6_wonBits_0 : decode cX6_wonBits 0 = .ok (.iload_n 1, 1) := by decide +kernel
theorem dX6_wonBits_1 : decode cX6_wonBits 1 = .ok (.iconst 0, 1) := by decide +kernel
theorem dX6_wonBits_2 : decode cX6_wonBits 2 = .ok (.iconst 1, 1) := by decide +kernel
theorem dX6_wonBits_3 : decode cX6_wonBits 3 = .ok (.invokestatic 68, 3) := by decide +kernel
theorem dX6_wonBits_6 : decode cX6_wonBits 6 = .ok (.ifCond .ne 9, 3) := by decide +kernel
theorem dX6_wonBits_9 : decode cX6_wonBits 9 = .ok (.aload_n 0, 1) := by decide +kernel
theorem dX6_wonBits_10 : decode cX6_wonBits 10 = .ok (.iconst 1, 1) := by decide +kernel
theorem dX6_wonBits_11 : decode cX6_wonBits 11 = .ok (.invokevirtual 197, 3) := by decide +kernel
theorem dX6_wonBits_14 : decode cX6_wonBits 14 = .ok (.ireturn, 1) := by decide +kernel
theorem dX6_wonBits_15 : decode cX6_wonBits 15 = .ok (.aload_n 0, 1) := by decide +kernel
theorem dX6_wonBits_16 : decode cX6_wonBits 16 = .ok (.aload_n 0, 1) := by decide +kernel
theorem dX6_wonBits_17 : decode cX6_wonBits 17 = .ok (.iload_n 1, 1) := by decide +kernel
theorem dX6_wonBits_18 : decode cX6_wonBits 18 = .ok (.invokevirtual 239, 3) := by decide +kernel
theorem dX6_wonBits_21 : decode cX6_wonBits 21 = .ok (.invokestatic 243, 3) := by decide +kernel
theorem dX6_wonBits_24 : decode cX6_wonBits 24 = .ok (.invokevirtual 203, 3) := by decide +kernel
theorem dX6_wonBits_27 : decode cX6_wonBits 27 = .ok (.ireturn, 1) := by decide +kernel
theorem dX6_meanCall_0 : decode cX6_meanCall 0 = .ok (.iload_n 1, 1) := by decide +kernel
theorem dX6_meanCall_1 : decode cX6_meanCall 1 = .ok (.iconst 0, 1) := by decide +kernel
theorem dX6_meanCall_2 : decode cX6_meanCall 2 = .ok (.iconst 1, 1) := by decide +kernel
theorem dX6_meanCall_3 : decode cX6_meanCall 3 = .ok (.invokestatic 68, 3) := by decide +kernel
theorem dX6_meanCall_6 : decode cX6_meanCall 6 = .ok (.ifCond .ne 10, 3) := by decide +kernel
theorem dX6_meanCall_9 : decode cX6_meanCall 9 = .ok (.aload_n 0, 1) := by decide +kernel
theorem dX6_meanCall_10 : decode cX6_meanCall 10 = .ok (.iconst 1, 1) := by decide +kernel
theorem dX6_meanCall_11 : decode cX6_meanCall 11 = .ok (.putfield 65, 3) := by decide +kernel
theorem dX6_meanCall_14 : decode cX6_meanCall 14 = .ok (.dconst 0, 1) := by decide +kernel
theorem dX6_meanCall_15 : decode cX6_meanCall 15 = .ok (.dreturn, 1) := by decide +kernel
theorem dX6_meanCall_16 : decode cX6_meanCall 16 = .ok (.aload_n 0, 1) := by decide +kernel
theorem dX6_meanCall_17 : decode cX6_meanCall 17 = .ok (.iconst 0, 1) := by decide +kernel
theorem dX6_meanCall_18 : decode cX6_meanCall 18 = .ok (.putfield 65, 3) := by decide +kernel
theorem dX6_meanCall_21 : decode cX6_meanCall 21 = .ok (.aload_n 0, 1) := by decide +kernel
theorem dX6_meanCall_22 : decode cX6_meanCall 22 = .ok (.iload_n 1, 1) := by decide +kernel
theorem dX6_meanCall_23 : decode cX6_meanCall 23 = .ok (.invokevirtual 233, 3) := by decide +kernel
theorem dX6_meanCall_26 : decode cX6_meanCall 26 = .ok (.istore_n 2, 1) := by decide +kernel
theorem dX6_meanCall_27 : decode cX6_meanCall 27 = .ok (.iconst 0, 1) := by decide +kernel
theorem dX6_meanCall_28 : decode cX6_meanCall 28 = .ok (.istore_n 3, 1) := by decide +kernel
theorem dX6_meanCall_29 : decode cX6_meanCall 29 = .ok (.iconst 0, 1) := by decide +kernel
theorem dX6_meanCall_30 : decode cX6_meanCall 30 = .ok (.istore 4, 2) := by decide +kernel
theorem dX6_meanCall_32 : decode cX6_meanCall 32 = .ok (.iload 4, 2) := by decide +kernel
theorem dX6_meanCall_34 : decode cX6_meanCall 34 = .ok (.aload_n 0, 1) := by decide +kernel
theorem dX6_meanCall_35 : decode cX6_meanCall 35 = .ok (.getfield 13, 3) := by decide +kernel
theorem dX6_meanCall_38 : decode cX6_meanCall 38 = .ok (.iconst 0, 1) := by decide +kernel
theorem dX6_meanCall_39 : decode cX6_meanCall 39 = .ok (.iaload, 1) := by decide +kernel
theorem dX6_meanCall_40 : decode cX6_meanCall 40 = .ok (.if_icmp .ge 35, 3) := by decide +kernel
theorem dX6_meanCall_43 : decode cX6_meanCall 43 = .ok (.iload_n 3, 1) := by decide +kernel
theorem dX6_meanCall_44 : decode cX6_meanCall 44 = .ok (.iload_n 2, 1) := by decide +kernel
theorem dX6_meanCall_45 : decode cX6_meanCall 45 = .ok (.iload 4, 2) := by decide +kernel
theorem dX6_meanCall_47 : decode cX6_meanCall 47 = .ok (.invokestatic 102, 3) := by decide +kernel
theorem dX6_meanCall_50 : decode cX6_meanCall 50 = .ok (.ifCond .eq 16, 3) := by decide +kernel
theorem dX6_meanCall_53 : decode cX6_meanCall 53 = .ok (.aload_n 0, 1) := by decide +kernel
theorem dX6_meanCall_54 : decode cX6_meanCall 54 = .ok (.getfield 13, 3) := by decide +kernel
theorem dX6_meanCall_57 : decode cX6_meanCall 57 = .ok (.bipush 24, 2) := by decide +kernel
theorem dX6_meanCall_59 : decode cX6_meanCall 59 = .ok (.iload 4, 2) := by decide +kernel
theorem dX6_meanCall_61 : decode cX6_meanCall 61 = .ok (.iadd, 1) := by decide +kernel
theorem dX6_meanCall_62 : decode cX6_meanCall 62 = .ok (.iaload, 1) := by decide +kernel
theorem dX6_meanCall_63 : decode cX6_meanCall 63 = .ok (.goto 4, 3) := by decide +kernel
theorem dX6_meanCall_66 : decode cX6_meanCall 66 = .ok (.iconst 0, 1) := by decide +kernel
theorem dX6_meanCall_67 : decode cX6_meanCall 67 = .ok (.iadd, 1) := by decide +kernel
theorem dX6_meanCall_68 : decode cX6_meanCall 68 = .ok (.istore_n 3, 1) := by decide +kernel
theorem dX6_meanCall_69 : decode cX6_meanCall 69 = .ok (.iinc 4 1, 3) := by decide +kernel
theorem dX6_meanCall_72 : decode cX6_meanCall 72 = .ok (.goto (-40), 3) := by decide +kernel
theorem dX6_meanCall_75 : decode cX6_meanCall 75 = .ok (.iload_n 2, 1) := by decide +kernel
theorem dX6_meanCall_76 : decode cX6_meanCall 76 = .ok (.ifCond .ne 7, 3) := by decide +kernel
theorem dX6_meanCall_79 : decode cX6_meanCall 79 = .ok (.dconst 0, 1) := by decide +kernel
theorem dX6_meanCall_80 : decode cX6_meanCall 80 = .ok (.goto 11, 3) := by decide +kernel
theorem dX6_meanCall_83 : decode cX6_meanCall 83 = .ok (.iload_n 3, 1) := by decide +kernel
theorem dX6_meanCall_84 : decode cX6_meanCall 84 = .ok (.i2d, 1) := by decide +kernel
theorem dX6_meanCall_85 : decode cX6_meanCall 85 = .ok (.iload_n 2, 1) := by decide +kernel
theorem dX6_meanCall_86 : decode cX6_meanCall 86 = .ok (.invokestatic 236, 3) := by decide +kernel
theorem dX6_meanCall_89 : decode cX6_meanCall 89 = .ok (.i2d, 1) := by decide +kernel
theorem dX6_meanCall_90 : decode cX6_meanCall 90 = .ok (.ddiv, 1) := by decide +kernel
theorem dX6_meanCall_91 : decode cX6_meanCall 91 = .ok (.dreturn, 1) := by decide +kernel
theorem dX6_plan_0 : decode cX6_plan 0 = .ok (.aload_n 0, 1) := by decide +kernel
theorem dX6_plan_1 : decode cX6_plan 1 = .ok (.iload_n 1, 1) := by decide +kernel
theorem dX6_plan_2 : decode cX6_plan 2 = .ok (.invokevirtual 173, 3) := by decide +kernel
theorem dX6_plan_5 : decode cX6_plan 5 = .ok (.ifCond .ne 9, 3) := by decide +kernel
theorem dX6_plan_8 : decode cX6_plan 8 = .ok (.aload_n 0, 1) := by decide +kernel
theorem dX6_plan_9 : decode cX6_plan 9 = .ok (.iconst 1, 1) := by decide +kernel
theorem dX6_plan_10 : decode cX6_plan 10 = .ok (.invokevirtual 197, 3) := by decide +kernel
theorem dX6_plan_13 : decode cX6_plan 13 = .ok (.ireturn, 1) := by decide +kernel
theorem dX6_plan_14 : decode cX6_plan 14 = .ok (.aload_n 0, 1) := by decide +kernel
theorem dX6_plan_15 : decode cX6_plan 15 = .ok (.invokevirtual 249, 3) := by decide +kernel
theorem dX6_plan_18 : decode cX6_plan 18 = .ok (.aload_n 0, 1) := by decide +kernel
theorem dX6_plan_19 : decode cX6_plan 19 = .ok (.aload_n 0, 1) := by decide +kernel
theorem dX6_plan_20 : decode cX6_plan 20 = .ok (.getfield 45, 3) := by decide +kernel
theorem dX6_plan_23 : decode cX6_plan 23 = .ok (.iload_n 1, 1) := by decide +kernel
theorem dX6_plan_24 : decode cX6_plan 24 = .ok (.iaload, 1) := by decide +kernel
theorem dX6_plan_25 : decode cX6_plan 25 = .ok (.invokevirtual 203, 3) := by decide +kernel
theorem dX6_plan_28 : decode cX6_plan 28 = .ok (.ireturn, 1) := by decide +kernel
theorem dX6_follow_0 : decode cX6_follow 0 = .ok (.aload_n 0, 1) := by decide +kernel
theorem dX6_follow_1 : decode cX6_follow 1 = .ok (.iload_n 1, 1) := by decide +kernel
theorem dX6_follow_2 : decode cX6_follow 2 = .ok (.invokevirtual 173, 3) := by decide +kernel
theorem dX6_follow_5 : decode cX6_follow 5 = .ok (.ifCond .ne 9, 3) := by decide +kernel
theorem dX6_follow_8 : decode cX6_follow 8 = .ok (.aload_n 0, 1) := by decide +kernel
theorem dX6_follow_9 : decode cX6_follow 9 = .ok (.iconst 1, 1) := by decide +kernel
theorem dX6_follow_10 : decode cX6_follow 10 = .ok (.invokevirtual 197, 3) := by decide +kernel
theorem dX6_follow_13 : decode cX6_follow 13 = .ok (.ireturn, 1) := by decide +kernel
theorem dX6_follow_14 : decode cX6_follow 14 = .ok (.iload_n 2, 1) := by decide +kernel
theorem dX6_follow_15 : decode cX6_follow 15 = .ok (.iconst 0, 1) := by decide +kernel
theorem dX6_follow_16 : decode cX6_follow 16 = .ok (.sipush 1000, 3) := by decide +kernel
theorem dX6_follow_19 : decode cX6_follow 19 = .ok (.invokestatic 68, 3) := by decide +kernel
theorem dX6_follow_22 : decode cX6_follow 22 = .ok (.ifCond .ne 9, 3) := by decide +kernel
theorem dX6_follow_25 : decode cX6_follow 25 = .ok (.aload_n 0, 1) := by decide +kernel
theorem dX6_follow_26 : decode cX6_follow 26 = .ok (.iconst 2, 1) := by decide +kernel
theorem dX6_follow_27 : decode cX6_follow 27 = .ok (.invokevirtual 197, 3) := by decide +kernel
theorem dX6_follow_30 : decode cX6_follow 30 = .ok (.ireturn, 1) := by decide +kernel
theorem dX6_follow_31 : decode cX6_follow 31 = .ok (.aload_n 0, 1) := by decide +kernel
theorem dX6_follow_32 : decode cX6_follow 32 = .ok (.invokevirtual 249, 3) := by decide +kernel
theorem dX6_follow_35 : decode cX6_follow 35 = .ok (.iload_n 1, 1) := by decide +kernel
theorem dX6_follow_36 : decode cX6_follow 36 = .ok (.istore_n 3, 1) := by decide +kernel
theorem dX6_follow_37 : decode cX6_follow 37 = .ok (.iconst 0, 1) := by decide +kernel
theorem dX6_follow_38 : decode cX6_follow 38 = .ok (.istore 4, 2) := by decide +kernel
theorem dX6_follow_40 : decode cX6_follow 40 = .ok (.iload 4, 2) := by decide +kernel
theorem dX6_follow_42 : decode cX6_follow 42 = .ok (.iload_n 2, 1) := by decide +kernel
theorem dX6_follow_43 : decode cX6_follow 43 = .ok (.if_icmp .ge 43, 3) := by decide +kernel
theorem dX6_follow_46 : decode cX6_follow 46 = .ok (.iload_n 3, 1) := by decide +kernel
theorem dX6_follow_47 : decode cX6_follow 47 = .ok (.iconst (-1), 1) := by decide +kernel
theorem dX6_follow_48 : decode cX6_follow 48 = .ok (.if_icmp .eq 38, 3) := by decide +kernel
theorem dX6_follow_51 : decode cX6_follow 51 = .ok (.aload_n 0, 1) := by decide +kernel
theorem dX6_follow_52 : decode cX6_follow 52 = .ok (.getfield 45, 3) := by decide +kernel
theorem dX6_follow_55 : decode cX6_follow 55 = .ok (.iload_n 3, 1) := by decide +kernel
theorem dX6_follow_56 : decode cX6_follow 56 = .ok (.iaload, 1) := by decide +kernel
theorem dX6_follow_57 : decode cX6_follow 57 = .ok (.iconst (-1), 1) := by decide +kernel
theorem dX6_follow_58 : decode cX6_follow 58 = .ok (.if_icmp .ne 7, 3) := by decide +kernel
theorem dX6_follow_61 : decode cX6_follow 61 = .ok (.iconst (-1), 1) := by decide +kernel
theorem dX6_follow_62 : decode cX6_follow 62 = .ok (.goto 17, 3) := by decide +kernel
theorem dX6_follow_65 : decode cX6_follow 65 = .ok (.aload_n 0, 1) := by decide +kernel
theorem dX6_follow_66 : decode cX6_follow 66 = .ok (.getfield 13, 3) := by decide +kernel
theorem dX6_follow_69 : decode cX6_follow 69 = .ok (.bipush 105, 2) := by decide +kernel
theorem dX6_follow_71 : decode cX6_follow 71 = .ok (.aload_n 0, 1) := by decide +kernel
theorem dX6_follow_72 : decode cX6_follow 72 = .ok (.getfield 45, 3) := by decide +kernel
theorem dX6_follow_75 : decode cX6_follow 75 = .ok (.iload_n 3, 1) := by decide +kernel
theorem dX6_follow_76 : decode cX6_follow 76 = .ok (.iaload, 1) := by decide +kernel
theorem dX6_follow_77 : decode cX6_follow 77 = .ok (.iadd, 1) := by decide +kernel
theorem dX6_follow_78 : decode cX6_follow 78 = .ok (.iaload, 1) := by decide +kernel
theorem dX6_follow_79 : decode cX6_follow 79 = .ok (.istore_n 3, 1) := by decide +kernel
theorem dX6_follow_80 : decode cX6_follow 80 = .ok (.iinc 4 1, 3) := by decide +kernel
theorem dX6_follow_83 : decode cX6_follow 83 = .ok (.goto (-43), 3) := by decide +kernel
theorem dX6_follow_86 : decode cX6_follow 86 = .ok (.aload_n 0, 1) := by decide +kernel
theorem dX6_follow_87 : decode cX6_follow 87 = .ok (.iload_n 3, 1) := by decide +kernel
theorem dX6_follow_88 : decode cX6_follow 88 = .ok (.invokevirtual 203, 3) := by decide +kernel
theorem dX6_follow_91 : decode cX6_follow 91 = .ok (.ireturn, 1) := by decide +kernel
theorem dX6_play_0 : decode cX6_play 0 = .ok (.aload_n 0, 1) := by decide +kernel
theorem dX6_play_1 : decode cX6_play 1 = .ok (.iload_n 1, 1) := by decide +kernel
theorem dX6_play_2 : decode cX6_play 2 = .ok (.invokevirtual 173, 3) := by decide +kernel
theorem dX6_play_5 : decode cX6_play 5 = .ok (.ifCond .ne 9, 3) := by decide +kernel
theorem dX6_play_8 : decode cX6_play 8 = .ok (.aload_n 0, 1) := by decide +kernel
theorem dX6_play_9 : decode cX6_play 9 = .ok (.iconst 1, 1) := by decide +kernel
theorem dX6_play_10 : decode cX6_play 10 = .ok (.invokevirtual 197, 3) := by decide +kernel
theorem dX6_play_13 : decode cX6_play 13 = .ok (.ireturn, 1) := by decide +kernel
theorem dX6_play_14 : decode cX6_play 14 = .ok (.iload_n 2, 1) := by decide +kernel
theorem dX6_play_15 : decode cX6_play 15 = .ok (.iconst 0, 1) := by decide +kernel
theorem dX6_play_16 : decode cX6_play 16 = .ok (.iconst 2, 1) := by decide +kernel
theorem dX6_play_17 : decode cX6_play 17 = .ok (.invokestatic 68, 3) := by decide +kernel
theorem dX6_play_20 : decode cX6_play 20 = .ok (.ifCond .ne 9, 3) := by decide +kernel
theorem dX6_play_23 : decode cX6_play 23 = .ok (.aload_n 0, 1) := by decide +kernel
theorem dX6_play_24 : decode cX6_play 24 = .ok (.iconst 2, 1) := by decide +kernel
theorem dX6_play_25 : decode cX6_play 25 = .ok (.invokevirtual 197, 3) := by decide +kernel
theorem dX6_play_28 : decode cX6_play 28 = .ok (.ireturn, 1) := by decide +kernel
theorem dX6_play_29 : decode cX6_play 29 = .ok (.aload_n 0, 1) := by decide +kernel
theorem dX6_play_30 : decode cX6_play 30 = .ok (.invokevirtual 249, 3) := by decide +kernel
theorem dX6_play_33 : decode cX6_play 33 = .ok (.aload_n 0, 1) := by decide +kernel
theorem dX6_play_34 : decode cX6_play 34 = .ok (.iload_n 1, 1) := by decide +kernel
theorem dX6_play_35 : decode cX6_play 35 = .ok (.invokevirtual 252, 3) := by decide +kernel
theorem dX6_play_38 : decode cX6_play 38 = .ok (.aload_n 0, 1) := by decide +kernel
theorem dX6_play_39 : decode cX6_play 39 = .ok (.iload_n 2, 1) := by decide +kernel
theorem dX6_play_40 : decode cX6_play 40 = .ok (.ifCond .ne 10, 3) := by decide +kernel
theorem dX6_play_43 : decode cX6_play 43 = .ok (.aload_n 0, 1) := by decide +kernel
theorem dX6_play_44 : decode cX6_play 44 = .ok (.getfield 115, 3) := by decide +kernel
theorem dX6_play_47 : decode cX6_play 47 = .ok (.goto 19, 3) := by decide +kernel
theorem dX6_play_50 : decode cX6_play 50 = .ok (.iload_n 2, 1) := by decide +kernel
theorem dX6_play_51 : decode cX6_play 51 = .ok (.iconst 1, 1) := by decide +kernel
theorem dX6_play_52 : decode cX6_play 52 = .ok (.if_icmp .ne 10, 3) := by decide +kernel
theorem dX6_play_55 : decode cX6_play 55 = .ok (.aload_n 0, 1) := by decide +kernel
theorem dX6_play_56 : decode cX6_play 56 = .ok (.getfield 118, 3) := by decide +kernel
theorem dX6_play_59 : decode cX6_play 59 = .ok (.goto 7, 3) := by decide +kernel
theorem dX6_play_62 : decode cX6_play 62 = .ok (.aload_n 0, 1) := by decide +kernel
theorem dX6_play_63 : decode cX6_play 63 = .ok (.getfield 121, 3) := by decide +kernel
theorem dX6_play_66 : decode cX6_play 66 = .ok (.invokevirtual 203, 3) := by decide +kernel
theorem dX6_play_69 : decode cX6_play 69 = .ok (.ireturn, 1) := by decide +kernel
theorem dX6_pull_0 : decode cX6_pull 0 = .ok (.iload_n 1, 1) := by decide +kernel
theorem dX6_pull_1 : decode cX6_pull 1 = .ok (.iconst 0, 1) := by decide +kernel
theorem dX6_pull_2 : decode cX6_pull 2 = .ok (.iconst 1, 1) := by decide +kernel
theorem dX6_pull_3 : decode cX6_pull 3 = .ok (.invokestatic 68, 3) := by decide +kernel
theorem dX6_pull_6 : decode cX6_pull 6 = .ok (.ifCond .eq 11, 3) := by decide +kernel
theorem dX6_pull_9 : decode cX6_pull 9 = .ok (.aload_n 0, 1) := by decide +kernel
theorem dX6_pull_10 : decode cX6_pull 10 = .ok (.iload_n 2, 1) := by decide +kernel
theorem dX6_pull_11 : decode cX6_pull 11 = .ok (.invokevirtual 255, 3) := by decide +kernel
theorem dX6_pull_14 : decode cX6_pull 14 = .ok (.ifCond .ne 9, 3) := by decide +kernel
theorem dX6_pull_17 : decode cX6_pull 17 = .ok (.aload_n 0, 1) := by decide +kernel
theorem dX6_pull_18 : decode cX6_pull 18 = .ok (.iconst 1, 1) := by decide +kernel
theorem dX6_pull_19 : decode cX6_pull 19 = .ok (.invokevirtual 197, 3) := by decide +kernel
theorem dX6_pull_22 : decode cX6_pull 22 = .ok (.ireturn, 1) := by decide +kernel
theorem dX6_pull_23 : decode cX6_pull 23 = .ok (.aload_n 0, 1) := by decide +kernel
theorem dX6_pull_24 : decode cX6_pull 24 = .ok (.aload_n 0, 1) := by decide +kernel
theorem dX6_pull_25 : decode cX6_pull 25 = .ok (.iload_n 1, 1) := by decide +kernel
theorem dX6_pull_26 : decode cX6_pull 26 = .ok (.iload_n 2, 1) := by decide +kernel
theorem dX6_pull_27 : decode cX6_pull 27 = .ok (.invokevirtual 133, 3) := by decide +kernel
theorem dX6_pull_30 : decode cX6_pull 30 = .ok (.invokevirtual 203, 3) := by decide +kernel
theorem dX6_pull_33 : decode cX6_pull 33 = .ok (.ireturn, 1) := by decide +kernel
theorem dX6_pullIn_0 : decode cX6_pullIn 0 = .ok (.aload_n 0, 1) := by decide +kernel
theorem dX6_pullIn_1 : decode cX6_pullIn 1 = .ok (.iload_n 1, 1) := by decide +kernel
theorem dX6_pullIn_2 : decode cX6_pullIn 2 = .ok (.invokevirtual 173, 3) := by decide +kernel
theorem dX6_pullIn_5 : decode cX6_pullIn 5 = .ok (.ifCond .ne 9, 3) := by decide +kernel
theorem dX6_pullIn_8 : decode cX6_pullIn 8 = .ok (.aload_n 0, 1) := by decide +kernel
theorem dX6_pullIn_9 : decode cX6_pullIn 9 = .ok (.iconst 1, 1) := by decide +kernel
theorem dX6_pullIn_10 : decode cX6_pullIn 10 = .ok (.invokevirtual 197, 3) := by decide +kernel
theorem dX6_pullIn_13 : decode cX6_pullIn 13 = .ok (.ireturn, 1) := by decide +kernel
theorem dX6_pullIn_14 : decode cX6_pullIn 14 = .ok (.iload_n 2, 1) := by decide +kernel
theorem dX6_pullIn_15 : decode cX6_pullIn 15 = .ok (.iconst 0, 1) := by decide +kernel
theorem dX6_pullIn_16 : decode cX6_pullIn 16 = .ok (.iconst 1, 1) := by decide +kernel
theorem dX6_pullIn_17 : decode cX6_pullIn 17 = .ok (.invokestatic 68, 3) := by decide +kernel
theorem dX6_pullIn_20 : decode cX6_pullIn 20 = .ok (.ifCond .eq 11, 3) := by decide +kernel
theorem dX6_pullIn_23 : decode cX6_pullIn 23 = .ok (.aload_n 0, 1) := by decide +kernel
theorem dX6_pullIn_24 : decode cX6_pullIn 24 = .ok (.iload_n 3, 1) := by decide +kernel
theorem dX6_pullIn_25 : decode cX6_pullIn 25 = .ok (.invokevirtual 255, 3) := by decide +kernel
theorem dX6_pullIn_28 : decode cX6_pullIn 28 = .ok (.ifCond .ne 9, 3) := by decide +kernel
theorem dX6_pullIn_31 : decode cX6_pullIn 31 = .ok (.aload_n 0, 1) := by decide +kernel
theorem dX6_pullIn_32 : decode cX6_pullIn 32 = .ok (.iconst 2, 1) := by decide +kernel
theorem dX6_pullIn_33 : decode cX6_pullIn 33 = .ok (.invokevirtual 197, 3) := by decide +kernel
theorem dX6_pullIn_36 : decode cX6_pullIn 36 = .ok (.ireturn, 1) := by decide +kernel
theorem dX6_pullIn_37 : decode cX6_pullIn 37 = .ok (.aload_n 0, 1) := by decide +kernel
theorem dX6_pullIn_38 : decode cX6_pullIn 38 = .ok (.iload_n 2, 1) := by decide +kernel
theorem dX6_pullIn_39 : decode cX6_pullIn 39 = .ok (.iload_n 3, 1) := by decide +kernel
theorem dX6_pullIn_40 : decode cX6_pullIn 40 = .ok (.invokevirtual 133, 3) := by decide +kernel
theorem dX6_pullIn_43 : decode cX6_pullIn 43 = .ok (.istore 4, 2) := by decide +kernel
theorem dX6_pullIn_45 : decode cX6_pullIn 45 = .ok (.aload_n 0, 1) := by decide +kernel
theorem dX6_pullIn_46 : decode cX6_pullIn 46 = .ok (.iload 4, 2) := by decide +kernel
theorem dX6_pullIn_48 : decode cX6_pullIn 48 = .ok (.iload_n 1, 1) := by decide +kernel
theorem dX6_pullIn_49 : decode cX6_pullIn 49 = .ok (.invokestatic 102, 3) := by decide +kernel
theorem dX6_pullIn_52 : decode cX6_pullIn 52 = .ok (.ifCond .eq 12, 3) := by decide +kernel
theorem dX6_pullIn_55 : decode cX6_pullIn 55 = .ok (.aload_n 0, 1) := by decide +kernel
theorem dX6_pullIn_56 : decode cX6_pullIn 56 = .ok (.getfield 51, 3) := by decide +kernel
theorem dX6_pullIn_59 : decode cX6_pullIn 59 = .ok (.iload_n 1, 1) := by decide +kernel
theorem dX6_pullIn_60 : decode cX6_pullIn 60 = .ok (.iaload, 1) := by decide +kernel
theorem dX6_pullIn_61 : decode cX6_pullIn 61 = .ok (.goto 4, 3) := by decide +kernel
theorem dX6_pullIn_64 : decode cX6_pullIn 64 = .ok (.iconst (-1), 1) := by decide +kernel
theorem dX6_pullIn_65 : decode cX6_pullIn 65 = .ok (.invokevirtual 203, 3) := by decide +kernel
theorem dX6_pullIn_68 : decode cX6_pullIn 68 = .ok (.ireturn, 1) := by decide +kernel
theorem dX6_stay_0 : decode cX6_stay 0 = .ok (.iload_n 1, 1) := by decide +kernel
theorem dX6_stay_1 : decode cX6_stay 1 = .ok (.iconst 0, 1) := by decide +kernel
theorem dX6_stay_2 : decode cX6_stay 2 = .ok (.iconst 1, 1) := by decide +kernel
theorem dX6_stay_3 : decode cX6_stay 3 = .ok (.invokestatic 68, 3) := by decide +kernel
theorem dX6_stay_6 : decode cX6_stay 6 = .ok (.ifCond .eq 11, 3) := by decide +kernel
theorem dX6_stay_9 : decode cX6_stay 9 = .ok (.aload_n 0, 1) := by decide +kernel
theorem dX6_stay_10 : decode cX6_stay 10 = .ok (.iload_n 2, 1) := by decide +kernel
theorem dX6_stay_11 : decode cX6_stay 11 = .ok (.invokevirtual 255, 3) := by decide +kernel
theorem dX6_stay_14 : decode cX6_stay 14 = .ok (.ifCond .ne 9, 3) := by decide +kernel
theorem dX6_stay_17 : decode cX6_stay 17 = .ok (.aload_n 0, 1) := by decide +kernel
theorem dX6_stay_18 : decode cX6_stay 18 = .ok (.iconst 1, 1) := by decide +kernel
theorem dX6_stay_19 : decode cX6_stay 19 = .ok (.invokevirtual 197, 3) := by decide +kernel
theorem dX6_stay_22 : decode cX6_stay 22 = .ok (.ireturn, 1) := by decide +kernel
theorem dX6_stay_23 : decode cX6_stay 23 = .ok (.aload_n 0, 1) := by decide +kernel
theorem dX6_stay_24 : decode cX6_stay 24 = .ok (.aload_n 0, 1) := by decide +kernel
theorem dX6_stay_25 : decode cX6_stay 25 = .ok (.iload_n 1, 1) := by decide +kernel
theorem dX6_stay_26 : decode cX6_stay 26 = .ok (.iload_n 2, 1) := by decide +kernel
theorem dX6_stay_27 : decode cX6_stay 27 = .ok (.invokevirtual 258, 3) := by decide +kernel
theorem dX6_stay_30 : decode cX6_stay 30 = .ok (.invokevirtual 203, 3) := by decide +kernel
theorem dX6_stay_33 : decode cX6_stay 33 = .ok (.ireturn, 1) := by decide +kernel
theorem dX6_comeBack_0 : decode cX6_comeBack 0 = .ok (.iload_n 1, 1) := by decide +kernel
theorem dX6_comeBack_1 : decode cX6_comeBack 1 = .ok (.iconst 0, 1) := by decide +kernel
theorem dX6_comeBack_2 : decode cX6_comeBack 2 = .ok (.iconst 1, 1) := by decide +kernel
theorem dX6_comeBack_3 : decode cX6_comeBack 3 = .ok (.invokestatic 68, 3) := by decide +kernel
theorem dX6_comeBack_6 : decode cX6_comeBack 6 = .ok (.ifCond .eq 11, 3) := by decide +kernel
theorem dX6_comeBack_9 : decode cX6_comeBack 9 = .ok (.aload_n 0, 1) := by decide +kernel
theorem dX6_comeBack_10 : decode cX6_comeBack 10 = .ok (.iload_n 2, 1) := by decide +kernel
theorem dX6_comeBack_11 : decode cX6_comeBack 11 = .ok (.invokevirtual 255, 3) := by decide +kernel
theorem dX6_comeBack_14 : decode cX6_comeBack 14 = .ok (.ifCond .ne 9, 3) := by decide +kernel
theorem dX6_comeBack_17 : decode cX6_comeBack 17 = .ok (.aload_n 0, 1) := by decide +kernel
theorem dX6_comeBack_18 : decode cX6_comeBack 18 = .ok (.iconst 1, 1) := by decide +kernel
theorem dX6_comeBack_19 : decode cX6_comeBack 19 = .ok (.invokevirtual 197, 3) := by decide +kernel
theorem dX6_comeBack_22 : decode cX6_comeBack 22 = .ok (.ireturn, 1) := by decide +kernel
theorem dX6_comeBack_23 : decode cX6_comeBack 23 = .ok (.aload_n 0, 1) := by decide +kernel
theorem dX6_comeBack_24 : decode cX6_comeBack 24 = .ok (.aload_n 0, 1) := by decide +kernel
theorem dX6_comeBack_25 : decode cX6_comeBack 25 = .ok (.iload_n 1, 1) := by decide +kernel
theorem dX6_comeBack_26 : decode cX6_comeBack 26 = .ok (.iload_n 2, 1) := by decide +kernel
theorem dX6_comeBack_27 : decode cX6_comeBack 27 = .ok (.invokevirtual 261, 3) := by decide +kernel
theorem dX6_comeBack_30 : decode cX6_comeBack 30 = .ok (.invokevirtual 203, 3) := by decide +kernel
theorem dX6_comeBack_33 : decode cX6_comeBack 33 = .ok (.ireturn, 1) := by decide +kernel
theorem dX6_isTrap_0 : decode cX6_isTrap 0 = .ok (.iload_n 1, 1) := by decide +kernel
theorem dX6_isTrap_1 : decode cX6_isTrap 1 = .ok (.iconst 0, 1) := by decide +kernel
theorem dX6_isTrap_2 : decode cX6_isTrap 2 = .ok (.iconst 1, 1) := by decide +kernel
theorem dX6_isTrap_3 : decode cX6_isTrap 3 = .ok (.invokestatic 68, 3) := by decide +kernel
theorem dX6_isTrap_6 : decode cX6_isTrap 6 = .ok (.ifCond .eq 11, 3) := by decide +kernel
theorem dX6_isTrap_9 : decode cX6_isTrap 9 = .ok (.aload_n 0, 1) := by decide +kernel
theorem dX6_isTrap_10 : decode cX6_isTrap 10 = .ok (.iload_n 2, 1) := by decide +kernel
theorem dX6_isTrap_11 : decode cX6_isTrap 11 = .ok (.invokevirtual 255, 3) := by decide +kernel
theorem dX6_isTrap_14 : decode cX6_isTrap 14 = .ok (.ifCond .ne 10, 3) := by decide +kernel
theorem dX6_isTrap_17 : decode cX6_isTrap 17 = .ok (.aload_n 0, 1) := by decide +kernel
theorem dX6_isTrap_18 : decode cX6_isTrap 18 = .ok (.iconst 1, 1) := by decide +kernel
theorem dX6_isTrap_19 : decode cX6_isTrap 19 = .ok (.putfield 65, 3) := by decide +kernel
theorem dX6_isTrap_22 : decode cX6_isTrap 22 = .ok (.iconst 0, 1) := by decide +kernel
theorem dX6_isTrap_23 : decode cX6_isTrap 23 = .ok (.ireturn, 1) := by decide +kernel
theorem dX6_isTrap_24 : decode cX6_isTrap 24 = .ok (.aload_n 0, 1) := by decide +kernel
theorem dX6_isTrap_25 : decode cX6_isTrap 25 = .ok (.iconst 0, 1) := by decide +kernel
theorem dX6_isTrap_26 : decode cX6_isTrap 26 = .ok (.putfield 65, 3) := by decide +kernel
theorem dX6_isTrap_29 : decode cX6_isTrap 29 = .ok (.iconst 1, 1) := by decide +kernel
theorem dX6_isTrap_30 : decode cX6_isTrap 30 = .ok (.istore_n 3, 1) := by decide +kernel
theorem dX6_isTrap_31 : decode cX6_isTrap 31 = .ok (.iconst 0, 1) := by decide +kernel
theorem dX6_isTrap_32 : decode cX6_isTrap 32 = .ok (.istore 4, 2) := by decide +kernel
theorem dX6_isTrap_34 : decode cX6_isTrap 34 = .ok (.iload 4, 2) := by decide +kernel
theorem dX6_isTrap_36 : decode cX6_isTrap 36 = .ok (.aload_n 0, 1) := by decide +kernel
theorem dX6_isTrap_37 : decode cX6_isTrap 37 = .ok (.getfield 13, 3) := by decide +kernel
theorem dX6_isTrap_40 : decode cX6_isTrap 40 = .ok (.iconst 0, 1) := by decide +kernel
theorem dX6_isTrap_41 : decode cX6_isTrap 41 = .ok (.iaload, 1) := by decide +kernel
theorem dX6_isTrap_42 : decode cX6_isTrap 42 = .ok (.if_icmp .ge 144, 3) := by decide +kernel
theorem dX6_isTrap_45 : decode cX6_isTrap 45 = .ok (.iconst 0, 1) := by decide +kernel
theorem dX6_isTrap_46 : decode cX6_isTrap 46 = .ok (.istore 5, 2) := by decide +kernel
theorem dX6_isTrap_48 : decode cX6_isTrap 48 = .ok (.iconst 0, 1) := by decide +kernel
theorem dX6_isTrap_49 : decode cX6_isTrap 49 = .ok (.istore 6, 2) := by decide +kernel
theorem dX6_isTrap_51 : decode cX6_isTrap 51 = .ok (.iload 6, 2) := by decide +kernel
theorem dX6_isTrap_53 : decode cX6_isTrap 53 = .ok (.aload_n 0, 1) := by decide +kernel
theorem dX6_isTrap_54 : decode cX6_isTrap 54 = .ok (.getfield 13, 3) := by decide +kernel
theorem dX6_isTrap_57 : decode cX6_isTrap 57 = .ok (.iconst 1, 1) := by decide +kernel
theorem dX6_isTrap_58 : decode cX6_isTrap 58 = .ok (.iaload, 1) := by decide +kernel
theorem dX6_isTrap_59 : decode cX6_isTrap 59 = .ok (.if_icmp .ge 51, 3) := by decide +kernel
theorem dX6_isTrap_62 : decode cX6_isTrap 62 = .ok (.iload 5, 2) := by decide +kernel
theorem dX6_isTrap_64 : decode cX6_isTrap 64 = .ok (.aload_n 0, 1) := by decide +kernel
theorem dX6_isTrap_65 : decode cX6_isTrap 65 = .ok (.getfield 13, 3) := by decide +kernel
theorem dX6_isTrap_68 : decode cX6_isTrap 68 = .ok (.bipush 44, 2) := by decide +kernel
theorem dX6_isTrap_70 : decode cX6_isTrap 70 = .ok (.iload 6, 2) := by decide +kernel
theorem dX6_isTrap_72 : decode cX6_isTrap 72 = .ok (.iadd, 1) := by decide +kernel
theorem dX6_isTrap_73 : decode cX6_isTrap 73 = .ok (.iaload, 1) := by decide +kernel
theorem dX6_isTrap_74 : decode cX6_isTrap 74 = .ok (.iload 4, 2) := by decide +kernel
theorem dX6_isTrap_76 : decode cX6_isTrap 76 = .ok (.if_icmp .ne 24, 3) := by decide +kernel
theorem dX6_isTrap_79 : decode cX6_isTrap 79 = .ok (.iload_n 2, 1) := by decide +kernel
theorem dX6_isTrap_80 : decode cX6_isTrap 80 = .ok (.aload_n 0, 1) := by decide +kernel
theorem dX6_isTrap_81 : decode cX6_isTrap 81 = .ok (.getfield 13, 3) := by decide +kernel
theorem dX6_isTrap_84 : decode cX6_isTrap 84 = .ok (.bipush 105, 2) := by decide +kernel
theorem dX6_isTrap_86 : decode cX6_isTrap 86 = .ok (.iload 6, 2) := by decide +kernel
theorem dX6_isTrap_88 : decode cX6_isTrap 88 = .ok (.iadd, 1) := by decide +kernel
theorem dX6_isTrap_89 : decode cX6_isTrap 89 = .ok (.iaload, 1) := by decide +kernel
theorem dX6_isTrap_90 : decode cX6_isTrap 90 = .ok (.invokestatic 102, 3) := by decide +kernel
theorem dX6_isTrap_93 : decode cX6_isTrap 93 = .ok (.ifCond .eq 7, 3) := by decide +kernel
theorem dX6_isTrap_96 : decode cX6_isTrap 96 = .ok (.iconst 1, 1) := by decide +kernel
theorem dX6_isTrap_97 : decode cX6_isTrap 97 = .ok (.goto 4, 3) := by decide +kernel
theorem dX6_isTrap_100 : decode cX6_isTrap 100 = .ok (.iconst 0, 1) := by decide +kernel
theorem dX6_isTrap_101 : decode cX6_isTrap 101 = .ok (.iadd, 1) := by decide +kernel
theorem dX6_isTrap_102 : decode cX6_isTrap 102 = .ok (.istore 5, 2) := by decide +kernel
theorem dX6_isTrap_104 : decode cX6_isTrap 104 = .ok (.iinc 6 1, 3) := by decide +kernel
theorem dX6_isTrap_107 : decode cX6_isTrap 107 = .ok (.goto (-56), 3) := by decide +kernel
theorem dX6_isTrap_110 : decode cX6_isTrap 110 = .ok (.aload_n 0, 1) := by decide +kernel
theorem dX6_isTrap_111 : decode cX6_isTrap 111 = .ok (.getfield 13, 3) := by decide +kernel
theorem dX6_isTrap_114 : decode cX6_isTrap 114 = .ok (.iconst 4, 1) := by decide +kernel
theorem dX6_isTrap_115 : decode cX6_isTrap 115 = .ok (.iload 4, 2) := by decide +kernel
theorem dX6_isTrap_117 : decode cX6_isTrap 117 = .ok (.iadd, 1) := by decide +kernel
theorem dX6_isTrap_118 : decode cX6_isTrap 118 = .ok (.iaload, 1) := by decide +kernel
theorem dX6_isTrap_119 : decode cX6_isTrap 119 = .ok (.iload_n 1, 1) := by decide +kernel
theorem dX6_isTrap_120 : decode cX6_isTrap 120 = .ok (.if_icmp .ne 24, 3) := by decide +kernel
theorem dX6_isTrap_123 : decode cX6_isTrap 123 = .ok (.iload 5, 2) := by decide +kernel
theorem dX6_isTrap_125 : decode cX6_isTrap 125 = .ok (.aload_n 0, 1) := by decide +kernel
theorem dX6_isTrap_126 : decode cX6_isTrap 126 = .ok (.iload 4, 2) := by decide +kernel
theorem dX6_isTrap_128 : decode cX6_isTrap 128 = .ok (.bipush 44, 2) := by decide +kernel
theorem dX6_isTrap_130 : decode cX6_isTrap 130 = .ok (.invokevirtual 224, 3) := by decide +kernel
theorem dX6_isTrap_133 : decode cX6_isTrap 133 = .ok (.if_icmp .ne 7, 3) := by decide +kernel
theorem dX6_isTrap_136 : decode cX6_isTrap 136 = .ok (.iconst 1, 1) := by decide +kernel
theorem dX6_isTrap_137 : decode cX6_isTrap 137 = .ok (.goto 17, 3) := by decide +kernel
theorem dX6_isTrap_140 : decode cX6_isTrap 140 = .ok (.iconst 0, 1) := by decide +kernel
theorem dX6_isTrap_141 : decode cX6_isTrap 141 = .ok (.goto 13, 3) := by decide +kernel
theorem dX6_isTrap_144 : decode cX6_isTrap 144 = .ok (.iload 5, 2) := by decide +kernel
theorem dX6_isTrap_146 : decode cX6_isTrap 146 = .ok (.ifCond .le 7, 3) := by decide +kernel
theorem dX6_isTrap_149 : decode cX6_isTrap 149 = .ok (.iconst 1, 1) := by decide +kernel
theorem dX6_isTrap_150 : decode cX6_isTrap 150 = .ok (.goto 4, 3) := by decide +kernel
theorem dX6_isTrap_153 : decode cX6_isTrap 153 = .ok (.iconst 0, 1) := by decide +kernel
theorem dX6_isTrap_154 : decode cX6_isTrap 154 = .ok (.istore 6, 2) := by decide +kernel
theorem dX6_isTrap_156 : decode cX6_isTrap 156 = .ok (.iload_n 3, 1) := by decide +kernel
theorem dX6_isTrap_157 : decode cX6_isTrap 157 = .ok (.ifCond .eq 21, 3) := by decide +kernel
theorem dX6_isTrap_160 : decode cX6_isTrap 160 = .ok (.iload_n 2, 1) := by decide +kernel
theorem dX6_isTrap_161 : decode cX6_isTrap 161 = .ok (.iload 4, 2) := by decide +kernel
theorem dX6_isTrap_163 : decode cX6_isTrap 163 = .ok (.invokestatic 102, 3) := by decide +kernel
theorem dX6_isTrap_166 : decode cX6_isTrap 166 = .ok (.ifCond .eq 8, 3) := by decide +kernel
theorem dX6_isTrap_169 : decode cX6_isTrap 169 = .ok (.iload 6, 2) := by decide +kernel
theorem dX6_isTrap_171 : decode cX6_isTrap 171 = .ok (.ifCond .eq 7, 3) := by decide +kernel
theorem dX6_isTrap_174 : decode cX6_isTrap 174 = .ok (.iconst 1, 1) := by decide +kernel
theorem dX6_isTrap_175 : decode cX6_isTrap 175 = .ok (.goto 4, 3) := by decide +kernel
theorem dX6_isTrap_178 : decode cX6_isTrap 178 = .ok (.iconst 0, 1) := by decide +kernel
theorem dX6_isTrap_179 : decode cX6_isTrap 179 = .ok (.istore_n 3, 1) := by decide +kernel
theorem dX6_isTrap_180 : decode cX6_isTrap 180 = .ok (.iinc 4 1, 3) := by decide +kernel
theorem dX6_isTrap_183 : decode cX6_isTrap 183 = .ok (.goto (-149), 3) := by decide +kernel
theorem dX6_isTrap_186 : decode cX6_isTrap 186 = .ok (.iload_n 3, 1) := by decide +kernel
theorem dX6_isTrap_187 : decode cX6_isTrap 187 = .ok (.ireturn, 1) := by decide +kernel
theorem dX6_canHear_0 : decode cX6_canHear 0 = .ok (.iload_n 1, 1) := by decide +kernel
theorem dX6_canHear_1 : decode cX6_canHear 1 = .ok (.iconst 0, 1) := by decide +kernel
theorem dX6_canHear_2 : decode cX6_canHear 2 = .ok (.iconst 1, 1) := by decide +kernel
theorem dX6_canHear_3 : decode cX6_canHear 3 = .ok (.invokestatic 68, 3) := by decide +kernel
theorem dX6_canHear_6 : decode cX6_canHear 6 = .ok (.ifCond .eq 13, 3) := by decide +kernel
theorem dX6_canHear_9 : decode cX6_canHear 9 = .ok (.iload_n 2, 1) := by decide +kernel
theorem dX6_canHear_10 : decode cX6_canHear 10 = .ok (.iconst 0, 1) := by decide +kernel
theorem dX6_canHear_11 : decode cX6_canHear 11 = .ok (.bipush 9, 2) := by decide +kernel
theorem dX6_canHear_13 : decode cX6_canHear 13 = .ok (.invokestatic 68, 3) := by decide +kernel
theorem dX6_canHear_16 : decode cX6_canHear 16 = .ok (.ifCond .ne 9, 3) := by decide +kernel
theorem dX6_canHear_19 : decode cX6_canHear 19 = .ok (.aload_n 0, 1) := by decide +kernel
theorem dX6_canHear_20 : decode cX6_canHear 20 = .ok (.iconst 1, 1) := by decide +kernel
theorem dX6_canHear_21 : decode cX6_canHear 21 = .ok (.invokevirtual 197, 3) := by decide +kernel
theorem dX6_canHear_24 : decode cX6_canHear 24 = .ok (.ireturn, 1) := by decide +kernel
theorem dX6_canHear_25 : decode cX6_canHear 25 = .ok (.iconst 0, 1) := by decide +kernel
theorem dX6_canHear_26 : decode cX6_canHear 26 = .ok (.istore_n 3, 1) := by decide +kernel
theorem dX6_canHear_27 : decode cX6_canHear 27 = .ok (.iconst 0, 1) := by decide +kernel
theorem dX6_canHear_28 : decode cX6_canHear 28 = .ok (.istore 4, 2) := by decide +kernel
theorem dX6_canHear_30 : decode cX6_canHear 30 = .ok (.iload 4, 2) := by decide +kernel
theorem dX6_canHear_32 : decode cX6_canHear 32 = .ok (.aload_n 0, 1) := by decide +kernel
theorem dX6_canHear_33 : decode cX6_canHear 33 = .ok (.getfield 13, 3) := by decide +kernel
theorem dX6_canHear_36 : decode cX6_canHear 36 = .ok (.iconst 0, 1) := by decide +kernel
theorem dX6_canHear_37 : decode cX6_canHear 37 = .ok (.iaload, 1) := by decide +kernel
theorem dX6_canHear_38 : decode cX6_canHear 38 = .ok (.if_icmp .ge 34, 3) := by decide +kernel
theorem dX6_canHear_41 : decode cX6_canHear 41 = .ok (.iload_n 3, 1) := by decide +kernel
theorem dX6_canHear_42 : decode cX6_canHear 42 = .ok (.aload_n 0, 1) := by decide +kernel
theorem dX6_canHear_43 : decode cX6_canHear 43 = .ok (.getfield 13, 3) := by decide +kernel
theorem dX6_canHear_46 : decode cX6_canHear 46 = .ok (.bipush 24, 2) := by decide +kernel
theorem dX6_canHear_48 : decode cX6_canHear 48 = .ok (.iload 4, 2) := by decide +kernel
theorem dX6_canHear_50 : decode cX6_canHear 50 = .ok (.iadd, 1) := by decide +kernel
theorem dX6_canHear_51 : decode cX6_canHear 51 = .ok (.iaload, 1) := by decide +kernel
theorem dX6_canHear_52 : decode cX6_canHear 52 = .ok (.iload_n 2, 1) := by decide +kernel
theorem dX6_canHear_53 : decode cX6_canHear 53 = .ok (.if_icmp .ne 10, 3) := by decide +kernel
theorem dX6_canHear_56 : decode cX6_canHear 56 = .ok (.iconst 1, 1) := by decide +kernel
theorem dX6_canHear_57 : decode cX6_canHear 57 = .ok (.iload 4, 2) := by decide +kernel
theorem dX6_canHear_59 : decode cX6_canHear 59 = .ok (.ishl, 1) := by decide +kernel
theorem dX6_canHear_60 : decode cX6_canHear 60 = .ok (.goto 4, 3) := by decide +kernel
theorem dX6_canHear_63 : decode cX6_canHear 63 = .ok (.iconst 0, 1) := by decide +kernel
theorem dX6_canHear_64 : decode cX6_canHear 64 = .ok (.ior, 1) := by decide +kernel
theorem dX6_canHear_65 : decode cX6_canHear 65 = .ok (.istore_n 3, 1) := by decide +kernel
theorem dX6_canHear_66 : decode cX6_canHear 66 = .ok (.iinc 4 1, 3) := by decide +kernel
theorem dX6_canHear_69 : decode cX6_canHear 69 = .ok (.goto (-39), 3) := by decide +kernel
theorem dX6_canHear_72 : decode cX6_canHear 72 = .ok (.aload_n 0, 1) := by decide +kernel
theorem dX6_canHear_73 : decode cX6_canHear 73 = .ok (.aload_n 0, 1) := by decide +kernel
theorem dX6_canHear_74 : decode cX6_canHear 74 = .ok (.iload_n 1, 1) := by decide +kernel
theorem dX6_canHear_75 : decode cX6_canHear 75 = .ok (.iload_n 3, 1) := by decide +kernel
theorem dX6_canHear_76 : decode cX6_canHear 76 = .ok (.invokevirtual 261, 3) := by decide +kernel
theorem dX6_canHear_79 : decode cX6_canHear 79 = .ok (.invokevirtual 203, 3) := by decide +kernel
theorem dX6_canHear_82 : decode cX6_canHear 82 = .ok (.ireturn, 1) := by decide +kernel
theorem dX6_wonIfCall_0 : decode cX6_wonIfCall 0 = .ok (.aload_n 0, 1) := by decide +kernel
theorem dX6_wonIfCall_1 : decode cX6_wonIfCall 1 = .ok (.iload_n 1, 1) := by decide +kernel
theorem dX6_wonIfCall_2 : decode cX6_wonIfCall 2 = .ok (.invokevirtual 173, 3) := by decide +kernel
theorem dX6_wonIfCall_5 : decode cX6_wonIfCall 5 = .ok (.ifCond .ne 9, 3) := by decide +kernel
theorem dX6_wonIfCall_8 : decode cX6_wonIfCall 8 = .ok (.aload_n 0, 1) := by decide +kernel
theorem dX6_wonIfCall_9 : decode cX6_wonIfCall 9 = .ok (.iconst 1, 1) := by decide +kernel
theorem dX6_wonIfCall_10 : decode cX6_wonIfCall 10 = .ok (.invokevirtual 197, 3) := by decide +kernel
theorem dX6_wonIfCall_13 : decode cX6_wonIfCall 13 = .ok (.ireturn, 1) := by decide +kernel
theorem dX6_wonIfCall_14 : decode cX6_wonIfCall 14 = .ok (.iload_n 2, 1) := by decide +kernel
theorem dX6_wonIfCall_15 : decode cX6_wonIfCall 15 = .ok (.iconst 0, 1) := by decide +kernel
theorem dX6_wonIfCall_16 : decode cX6_wonIfCall 16 = .ok (.bipush 9, 2) := by decide +kernel
theorem dX6_wonIfCall_18 : decode cX6_wonIfCall 18 = .ok (.invokestatic 68, 3) := by decide +kernel
theorem dX6_wonIfCall_21 : decode cX6_wonIfCall 21 = .ok (.ifCond .ne 9, 3) := by decide +kernel
theorem dX6_wonIfCall_24 : decode cX6_wonIfCall 24 = .ok (.aload_n 0, 1) := by decide +kernel
theorem dX6_wonIfCall_25 : decode cX6_wonIfCall 25 = .ok (.iconst 2, 1) := by decide +kernel
theorem dX6_wonIfCall_26 : decode cX6_wonIfCall 26 = .ok (.invokevirtual 197, 3) := by decide +kernel
theorem dX6_wonIfCall_29 : decode cX6_wonIfCall 29 = .ok (.ireturn, 1) := by decide +kernel
theorem dX6_wonIfCall_30 : decode cX6_wonIfCall 30 = .ok (.aload_n 0, 1) := by decide +kernel
theorem dX6_wonIfCall_31 : decode cX6_wonIfCall 31 = .ok (.getfield 13, 3) := by decide +kernel
theorem dX6_wonIfCall_34 : decode cX6_wonIfCall 34 = .ok (.bipush 24, 2) := by decide +kernel
theorem dX6_wonIfCall_36 : decode cX6_wonIfCall 36 = .ok (.iload_n 1, 1) := by decide +kernel
theorem dX6_wonIfCall_37 : decode cX6_wonIfCall 37 = .ok (.iadd, 1) := by decide +kernel
theorem dX6_wonIfCall_38 : decode cX6_wonIfCall 38 = .ok (.iaload, 1) := by decide +kernel
theorem dX6_wonIfCall_39 : decode cX6_wonIfCall 39 = .ok (.istore_n 3, 1) := by decide +kernel
theorem dX6_wonIfCall_40 : decode cX6_wonIfCall 40 = .ok (.aload_n 0, 1) := by decide +kernel
theorem dX6_wonIfCall_41 : decode cX6_wonIfCall 41 = .ok (.getfield 13, 3) := by decide +kernel
theorem dX6_wonIfCall_44 : decode cX6_wonIfCall 44 = .ok (.bipush 24, 2) := by decide +kernel
theorem dX6_wonIfCall_46 : decode cX6_wonIfCall 46 = .ok (.iload_n 1, 1) := by decide +kernel
theorem dX6_wonIfCall_47 : decode cX6_wonIfCall 47 = .ok (.iadd, 1) := by decide +kernel
theorem dX6_wonIfCall_48 : decode cX6_wonIfCall 48 = .ok (.iload_n 2, 1) := by decide +kernel
theorem dX6_wonIfCall_49 : decode cX6_wonIfCall 49 = .ok (.iastore, 1) := by decide +kernel
theorem dX6_wonIfCall_50 : decode cX6_wonIfCall 50 = .ok (.aload_n 0, 1) := by decide +kernel
theorem dX6_wonIfCall_51 : decode cX6_wonIfCall 51 = .ok (.invokevirtual 96, 3) := by decide +kernel
theorem dX6_wonIfCall_54 : decode cX6_wonIfCall 54 = .ok (.istore 4, 2) := by decide +kernel
theorem dX6_wonIfCall_56 : decode cX6_wonIfCall 56 = .ok (.aload_n 0, 1) := by decide +kernel
theorem dX6_wonIfCall_57 : decode cX6_wonIfCall 57 = .ok (.getfield 13, 3) := by decide +kernel
theorem dX6_wonIfCall_60 : decode cX6_wonIfCall 60 = .ok (.bipush 24, 2) := by decide +kernel
theorem dX6_wonIfCall_62 : decode cX6_wonIfCall 62 = .ok (.iload_n 1, 1) := by decide +kernel
theorem dX6_wonIfCall_63 : decode cX6_wonIfCall 63 = .ok (.iadd, 1) := by decide +kernel
theorem dX6_wonIfCall_64 : decode cX6_wonIfCall 64 = .ok (.iload_n 3, 1) := by decide +kernel
theorem dX6_wonIfCall_65 : decode cX6_wonIfCall 65 = .ok (.iastore, 1) := by decide +kernel
theorem dX6_wonIfCall_66 : decode cX6_wonIfCall 66 = .ok (.aload_n 0, 1) := by decide +kernel
theorem dX6_wonIfCall_67 : decode cX6_wonIfCall 67 = .ok (.iload 4, 2) := by decide +kernel
theorem dX6_wonIfCall_69 : decode cX6_wonIfCall 69 = .ok (.invokevirtual 203, 3) := by decide +kernel
theorem dX6_wonIfCall_72 : decode cX6_wonIfCall 72 = .ok (.ireturn, 1) := by decide +kernel
theorem dX6_wonOther_0 : decode cX6_wonOther 0 = .ok (.aload_n 0, 1) := by decide +kernel
theorem dX6_wonOther_1 : decode cX6_wonOther 1 = .ok (.getfield 13, 3) := by decide +kernel
theorem dX6_wonOther_4 : decode cX6_wonOther 4 = .ok (.iconst 4, 1) := by decide +kernel
theorem dX6_wonOther_5 : decode cX6_wonOther 5 = .ok (.iload_n 1, 1) := by decide +kernel
theorem dX6_wonOther_6 : decode cX6_wonOther 6 = .ok (.iadd, 1) := by decide +kernel
theorem dX6_wonOther_7 : decode cX6_wonOther 7 = .ok (.iconst 1, 1) := by decide +kernel
theorem dX6_wonOther_8 : decode cX6_wonOther 8 = .ok (.aload_n 0, 1) := by decide +kernel
theorem dX6_wonOther_9 : decode cX6_wonOther 9 = .ok (.getfield 13, 3) := by decide +kernel
theorem dX6_wonOther_12 : decode cX6_wonOther 12 = .ok (.iconst 4, 1) := by decide +kernel
theorem dX6_wonOther_13 : decode cX6_wonOther 13 = .ok (.iload_n 1, 1) := by decide +kernel
theorem dX6_wonOther_14 : decode cX6_wonOther 14 = .ok (.iadd, 1) := by decide +kernel
theorem dX6_wonOther_15 : decode cX6_wonOther 15 = .ok (.iaload, 1) := by decide +kernel
theorem dX6_wonOther_16 : decode cX6_wonOther 16 = .ok (.isub, 1) := by decide +kernel
theorem dX6_wonOther_17 : decode cX6_wonOther 17 = .ok (.iastore, 1) := by decide +kernel
theorem dX6_wonOther_18 : decode cX6_wonOther 18 = .ok (.aload_n 0, 1) := by decide +kernel
theorem dX6_wonOther_19 : decode cX6_wonOther 19 = .ok (.invokevirtual 96, 3) := by decide +kernel
theorem dX6_wonOther_22 : decode cX6_wonOther 22 = .ok (.istore_n 2, 1) := by decide +kernel
theorem dX6_wonOther_23 : decode cX6_wonOther 23 = .ok (.aload_n 0, 1) := by decide +kernel
theorem dX6_wonOther_24 : decode cX6_wonOther 24 = .ok (.getfield 13, 3) := by decide +kernel
theorem dX6_wonOther_27 : decode cX6_wonOther 27 = .ok (.iconst 4, 1) := by decide +kernel
theorem dX6_wonOther_28 : decode cX6_wonOther 28 = .ok (.iload_n 1, 1) := by decide +kernel
theorem dX6_wonOther_29 : decode cX6_wonOther 29 = .ok (.iadd, 1) := by decide +kernel
theorem dX6_wonOther_30 : decode cX6_wonOther 30 = .ok (.iconst 1, 1) := by decide +kernel
theorem dX6_wonOther_31 : decode cX6_wonOther 31 = .ok (.aload_n 0, 1) := by decide +kernel
theorem dX6_wonOther_32 : decode cX6_wonOther 32 = .ok (.getfield 13, 3) := by decide +kernel
theorem dX6_wonOther_35 : decode cX6_wonOther 35 = .ok (.iconst 4, 1) := by decide +kernel
theorem dX6_wonOther_36 : decode cX6_wonOther 36 = .ok (.iload_n 1, 1) := by decide +kernel
theorem dX6_wonOther_37 : decode cX6_wonOther 37 = .ok (.iadd, 1) := by decide +kernel
theorem dX6_wonOther_38 : decode cX6_wonOther 38 = .ok (.iaload, 1) := by decide +kernel
theorem dX6_wonOther_39 : decode cX6_wonOther 39 = .ok (.isub, 1) := by decide +kernel
theorem dX6_wonOther_40 : decode cX6_wonOther 40 = .ok (.iastore, 1) := by decide +kernel
theorem dX6_wonOther_41 : decode cX6_wonOther 41 = .ok (.iload_n 2, 1) := by decide +kernel
theorem dX6_wonOther_42 : decode cX6_wonOther 42 = .ok (.ireturn, 1) := by decide +kernel
theorem dX6_wonIfOther_0 : decode cX6_wonIfOther 0 = .ok (.aload_n 0, 1) := by decide +kernel
theorem dX6_wonIfOther_1 : decode cX6_wonIfOther 1 = .ok (.iload_n 1, 1) := by decide +kernel
theorem dX6_wonIfOther_2 : decode cX6_wonIfOther 2 = .ok (.invokevirtual 173, 3) := by decide +kernel
theorem dX6_wonIfOther_5 : decode cX6_wonIfOther 5 = .ok (.ifCond .ne 9, 3) := by decide +kernel
theorem dX6_wonIfOther_8 : decode cX6_wonIfOther 8 = .ok (.aload_n 0, 1) := by decide +kernel
theorem dX6_wonIfOther_9 : decode cX6_wonIfOther 9 = .ok (.iconst 1, 1) := by decide +kernel
theorem dX6_wonIfOther_10 : decode cX6_wonIfOther 10 = .ok (.invokevirtual 197, 3) := by decide +kernel
theorem dX6_wonIfOther_13 : decode cX6_wonIfOther 13 = .ok (.ireturn, 1) := by decide +kernel
theorem dX6_wonIfOther_14 : decode cX6_wonIfOther 14 = .ok (.aload_n 0, 1) := by decide +kernel
theorem dX6_wonIfOther_15 : decode cX6_wonIfOther 15 = .ok (.aload_n 0, 1) := by decide +kernel
theorem dX6_wonIfOther_16 : decode cX6_wonIfOther 16 = .ok (.iload_n 1, 1) := by decide +kernel
theorem dX6_wonIfOther_17 : decode cX6_wonIfOther 17 = .ok (.invokevirtual 264, 3) := by decide +kernel
theorem dX6_wonIfOther_20 : decode cX6_wonIfOther 20 = .ok (.invokevirtual 203, 3) := by decide +kernel
theorem dX6_wonIfOther_23 : decode cX6_wonIfOther 23 = .ok (.ireturn, 1) := by decide +kernel
theorem dX6_wonBut_0 : decode cX6_wonBut 0 = .ok (.aload_n 0, 1) := by decide +kernel
theorem dX6_wonBut_1 : decode cX6_wonBut 1 = .ok (.invokevirtual 89, 3) := by decide +kernel
theorem dX6_wonBut_4 : decode cX6_wonBut 4 = .ok (.aload_n 0, 1) := by decide +kernel
theorem dX6_wonBut_5 : decode cX6_wonBut 5 = .ok (.getfield 36, 3) := by decide +kernel
theorem dX6_wonBut_8 : decode cX6_wonBut 8 = .ok (.iload_n 1, 1) := by decide +kernel
theorem dX6_wonBut_9 : decode cX6_wonBut 9 = .ok (.iconst 0, 1) := by decide +kernel
theorem dX6_wonBut_10 : decode cX6_wonBut 10 = .ok (.iastore, 1) := by decide +kernel
theorem dX6_wonBut_11 : decode cX6_wonBut 11 = .ok (.aload_n 0, 1) := by decide +kernel
theorem dX6_wonBut_12 : decode cX6_wonBut 12 = .ok (.invokevirtual 92, 3) := by decide +kernel
theorem dX6_wonBut_15 : decode cX6_wonBut 15 = .ok (.ireturn, 1) := by decide +kernel
theorem dX6_wonWithout_0 : decode cX6_wonWithout 0 = .ok (.aload_n 0, 1) := by decide +kernel
theorem dX6_wonWithout_1 : decode cX6_wonWithout 1 = .ok (.iload_n 1, 1) := by decide +kernel
theorem dX6_wonWithout_2 : decode cX6_wonWithout 2 = .ok (.invokevirtual 230, 3) := by decide +kernel
theorem dX6_wonWithout_5 : decode cX6_wonWithout 5 = .ok (.ifCond .ne 9, 3) := by decide +kernel
theorem dX6_wonWithout_8 : decode cX6_wonWithout 8 = .ok (.aload_n 0, 1) := by decide +kernel
theorem dX6_wonWithout_9 : decode cX6_wonWithout 9 = .ok (.iconst 1, 1) := by decide +kernel
theorem dX6_wonWithout_10 : decode cX6_wonWithout 10 = .ok (.invokevirtual 197, 3) := by decide +kernel
theorem dX6_wonWithout_13 : decode cX6_wonWithout 13 = .ok (.ireturn, 1) := by decide +kernel
theorem dX6_wonWithout_14 : decode cX6_wonWithout 14 = .ok (.aload_n 0, 1) := by decide +kernel
theorem dX6_wonWithout_15 : decode cX6_wonWithout 15 = .ok (.aload_n 0, 1) := by decide +kernel
theorem dX6_wonWithout_16 : decode cX6_wonWithout 16 = .ok (.iload_n 1, 1) := by decide +kernel
theorem dX6_wonWithout_17 : decode cX6_wonWithout 17 = .ok (.invokevirtual 267, 3) := by decide +kernel
theorem dX6_wonWithout_20 : decode cX6_wonWithout 20 = .ok (.invokevirtual 203, 3) := by decide +kernel
theorem dX6_wonWithout_23 : decode cX6_wonWithout 23 = .ok (.ireturn, 1) := by decide +kernel
theorem dX6_wonWith_0 : decode cX6_wonWith 0 = .ok (.aload_n 0, 1) := by decide +kernel
theorem dX6_wonWith_1 : decode cX6_wonWith 1 = .ok (.iload_n 1, 1) := by decide +kernel
theorem dX6_wonWith_2 : decode cX6_wonWith 2 = .ok (.invokevirtual 173, 3) := by decide +kernel
theorem dX6_wonWith_5 : decode cX6_wonWith 5 = .ok (.ifCond .eq 11, 3) := by decide +kernel
theorem dX6_wonWith_8 : decode cX6_wonWith 8 = .ok (.aload_n 0, 1) := by decide +kernel
theorem dX6_wonWith_9 : decode cX6_wonWith 9 = .ok (.iload_n 2, 1) := by decide +kernel
theorem dX6_wonWith_10 : decode cX6_wonWith 10 = .ok (.invokevirtual 173, 3) := by decide +kernel
theorem dX6_wonWith_13 : decode cX6_wonWith 13 = .ok (.ifCond .ne 9, 3) := by decide +kernel
theorem dX6_wonWith_16 : decode cX6_wonWith 16 = .ok (.aload_n 0, 1) := by decide +kernel
theorem dX6_wonWith_17 : decode cX6_wonWith 17 = .ok (.iconst 1, 1) := by decide +kernel
theorem dX6_wonWith_18 : decode cX6_wonWith 18 = .ok (.invokevirtual 197, 3) := by decide +kernel
theorem dX6_wonWith_21 : decode cX6_wonWith 21 = .ok (.ireturn, 1) := by decide +kernel
theorem dX6_wonWith_22 : decode cX6_wonWith 22 = .ok (.aload_n 0, 1) := by decide +kernel
theorem dX6_wonWith_23 : decode cX6_wonWith 23 = .ok (.iload_n 1, 1) := by decide +kernel
theorem dX6_wonWith_24 : decode cX6_wonWith 24 = .ok (.iload_n 2, 1) := by decide +kernel
theorem dX6_wonWith_25 : decode cX6_wonWith 25 = .ok (.invokevirtual 179, 3) := by decide +kernel
theorem dX6_wonWith_28 : decode cX6_wonWith 28 = .ok (.iconst (-1), 1) := by decide +kernel
theorem dX6_wonWith_29 : decode cX6_wonWith 29 = .ok (.if_icmp .eq 12, 3) := by decide +kernel
theorem dX6_wonWith_32 : decode cX6_wonWith 32 = .ok (.aload_n 0, 1) := by decide +kernel
theorem dX6_wonWith_33 : decode cX6_wonWith 33 = .ok (.aload_n 0, 1) := by decide +kernel
theorem dX6_wonWith_34 : decode cX6_wonWith 34 = .ok (.invokevirtual 96, 3) := by decide +kernel
theorem dX6_wonWith_37 : decode cX6_wonWith 37 = .ok (.invokevirtual 203, 3) := by decide +kernel
theorem dX6_wonWith_40 : decode cX6_wonWith 40 = .ok (.ireturn, 1) := by decide +kernel
theorem dX6_wonWith_41 : decode cX6_wonWith 41 = .ok (.aload_n 0, 1) := by decide +kernel
theorem dX6_wonWith_42 : decode cX6_wonWith 42 = .ok (.iload_n 1, 1) := by decide +kernel
theorem dX6_wonWith_43 : decode cX6_wonWith 43 = .ok (.iload_n 2, 1) := by decide +kernel
theorem dX6_wonWith_44 : decode cX6_wonWith 44 = .ok (.invokevirtual 58, 3) := by decide +kernel
theorem dX6_wonWith_47 : decode cX6_wonWith 47 = .ok (.aload_n 0, 1) := by decide +kernel
theorem dX6_wonWith_48 : decode cX6_wonWith 48 = .ok (.invokevirtual 96, 3) := by decide +kernel
theorem dX6_wonWith_51 : decode cX6_wonWith 51 = .ok (.istore_n 3, 1) := by decide +kernel
theorem dX6_wonWith_52 : decode cX6_wonWith 52 = .ok (.aload_n 0, 1) := by decide +kernel
theorem dX6_wonWith_53 : decode cX6_wonWith 53 = .ok (.getfield 13, 3) := by decide +kernel
theorem dX6_wonWith_56 : decode cX6_wonWith 56 = .ok (.iconst 1, 1) := by decide +kernel
theorem dX6_wonWith_57 : decode cX6_wonWith 57 = .ok (.dup2, 1) := by decide +kernel
theorem dX6_wonWith_58 : decode cX6_wonWith 58 = .ok (.iaload, 1) := by decide +kernel
theorem dX6_wonWith_59 : decode cX6_wonWith 59 = .ok (.iconst 1, 1) := by decide +kernel
theorem dX6_wonWith_60 : decode cX6_wonWith 60 = .ok (.isub, 1) := by decide +kernel
theorem dX6_wonWith_61 : decode cX6_wonWith 61 = .ok (.iastore, 1) := by decide +kernel
theorem dX6_wonWith_62 : decode cX6_wonWith 62 = .ok (.aload_n 0, 1) := by decide +kernel
theorem dX6_wonWith_63 : decode cX6_wonWith 63 = .ok (.iload_n 3, 1) := by decide +kernel
theorem dX6_wonWith_64 : decode cX6_wonWith 64 = .ok (.invokevirtual 203, 3) := by decide +kernel
theorem dX6_wonWith_67 : decode cX6_wonWith 67 = .ok (.ireturn, 1) := by decide +kernel
theorem dX6_leastCall_0 : decode cX6_leastCall 0 = .ok (.aload_n 0, 1) := by decide +kernel
theorem dX6_leastCall_1 : decode cX6_leastCall 1 = .ok (.iload_n 2, 1) := by decide +kernel
theorem dX6_leastCall_2 : decode cX6_leastCall 2 = .ok (.invokevirtual 173, 3) := by decide +kernel
theorem dX6_leastCall_5 : decode cX6_leastCall 5 = .ok (.ifCond .eq 11, 3) := by decide +kernel
theorem dX6_leastCall_8 : decode cX6_leastCall 8 = .ok (.aload_n 0, 1) := by decide +kernel
theorem dX6_leastCall_9 : decode cX6_leastCall 9 = .ok (.iload_n 3, 1) := by decide +kernel
theorem dX6_leastCall_10 : decode cX6_leastCall 10 = .ok (.invokevirtual 173, 3) := by decide +kernel
theorem dX6_leastCall_13 : decode cX6_leastCall 13 = .ok (.ifCond .ne 9, 3) := by decide +kernel
theorem dX6_leastCall_16 : decode cX6_leastCall 16 = .ok (.aload_n 0, 1) := by decide +kernel
theorem dX6_leastCall_17 : decode cX6_leastCall 17 = .ok (.iconst 1, 1) := by decide +kernel
theorem dX6_leastCall_18 : decode cX6_leastCall 18 = .ok (.invokevirtual 197, 3) := by decide +kernel
theorem dX6_leastCall_21 : decode cX6_leastCall 21 = .ok (.ireturn, 1) := by decide +kernel
theorem dX6_leastCall_22 : decode cX6_leastCall 22 = .ok (.iload_n 1, 1) := by decide +kernel
theorem dX6_leastCall_23 : decode cX6_leastCall 23 = .ok (.iconst 0, 1) := by decide +kernel
theorem dX6_leastCall_24 : decode cX6_leastCall 24 = .ok (.iconst 1, 1) := by decide +kernel
theorem dX6_leastCall_25 : decode cX6_leastCall 25 = .ok (.invokestatic 68, 3) := by decide +kernel
theorem dX6_leastCall_28 : decode cX6_leastCall 28 = .ok (.ifCond .ne 9, 3) := by decide +kernel
theorem dX6_leastCall_31 : decode cX6_leastCall 31 = .ok (.aload_n 0, 1) := by decide +kernel
theorem dX6_leastCall_32 : decode cX6_leastCall 32 = .ok (.iconst 2, 1) := by decide +kernel
theorem dX6_leastCall_33 : decode cX6_leastCall 33 = .ok (.invokevirtual 197, 3) := by decide +kernel
theorem dX6_leastCall_36 : decode cX6_leastCall 36 = .ok (.ireturn, 1) := by decide +kernel
theorem dX6_leastCall_37 : decode cX6_leastCall 37 = .ok (.aload_n 0, 1) := by decide +kernel
theorem dX6_leastCall_38 : decode cX6_leastCall 38 = .ok (.getfield 13, 3) := by decide +kernel
theorem dX6_leastCall_41 : decode cX6_leastCall 41 = .ok (.bipush 24, 2) := by decide +kernel
theorem dX6_leastCall_43 : decode cX6_leastCall 43 = .ok (.iload_n 2, 1) := by decide +kernel
theorem dX6_leastCall_44 : decode cX6_leastCall 44 = .ok (.iadd, 1) := by decide +kernel
theorem dX6_leastCall_45 : decode cX6_leastCall 45 = .ok (.iaload, 1) := by decide +kernel
theorem dX6_leastCall_46 : decode cX6_leastCall 46 = .ok (.istore 4, 2) := by decide +kernel
theorem dX6_leastCall_48 : decode cX6_leastCall 48 = .ok (.iconst (-1), 1) := by decide +kernel
theorem dX6_leastCall_49 : decode cX6_leastCall 49 = .ok (.istore 5, 2) := by decide +kernel
theorem dX6_leastCall_51 : decode cX6_leastCall 51 = .ok (.iconst 0, 1) := by decide +kernel
theorem dX6_leastCall_52 : decode cX6_leastCall 52 = .ok (.istore 6, 2) := by decide +kernel
theorem dX6_leastCall_54 : decode cX6_leastCall 54 = .ok (.iload 6, 2) := by decide +kernel
theorem dX6_leastCall_56 : decode cX6_leastCall 56 = .ok (.bipush 10, 2) := by decide +kernel
theorem dX6_leastCall_58 : decode cX6_leastCall 58 = .ok (.if_icmp .ge 43, 3) := by decide +kernel
theorem dX6_leastCall_61 : decode cX6_leastCall 61 = .ok (.iload 5, 2) := by decide +kernel
theorem dX6_leastCall_63 : decode cX6_leastCall 63 = .ok (.iconst (-1), 1) := by decide +kernel
theorem dX6_leastCall_64 : decode cX6_leastCall 64 = .ok (.if_icmp .ne 37, 3) := by decide +kernel
theorem dX6_leastCall_67 : decode cX6_leastCall 67 = .ok (.aload_n 0, 1) := by decide +kernel
theorem dX6_leastCall_68 : decode cX6_leastCall 68 = .ok (.getfield 13, 3) := by decide +kernel
theorem dX6_leastCall_71 : decode cX6_leastCall 71 = .ok (.bipush 24, 2) := by decide +kernel
theorem dX6_leastCall_73 : decode cX6_leastCall 73 = .ok (.iload_n 2, 1) := by decide +kernel
theorem dX6_leastCall_74 : decode cX6_leastCall 74 = .ok (.iadd, 1) := by decide +kernel
theorem dX6_leastCall_75 : decode cX6_leastCall 75 = .ok (.iload 6, 2) := by decide +kernel
theorem dX6_leastCall_77 : decode cX6_leastCall 77 = .ok (.iastore, 1) := by decide +kernel
theorem dX6_leastCall_78 : decode cX6_leastCall 78 = .ok (.aload_n 0, 1) := by decide +kernel
theorem dX6_leastCall_79 : decode cX6_leastCall 79 = .ok (.iload_n 3, 1) := by decide +kernel
theorem dX6_leastCall_80 : decode cX6_leastCall 80 = .ok (.invokevirtual 227, 3) := by decide +kernel
theorem dX6_leastCall_83 : decode cX6_leastCall 83 = .ok (.iload_n 1, 1) := by decide +kernel
theorem dX6_leastCall_84 : decode cX6_leastCall 84 = .ok (.if_icmp .ne 8, 3) := by decide +kernel
theorem dX6_leastCall_87 : decode cX6_leastCall 87 = .ok (.iload 6, 2) := by decide +kernel
theorem dX6_leastCall_89 : decode cX6_leastCall 89 = .ok (.goto 4, 3) := by decide +kernel
theorem dX6_leastCall_92 : decode cX6_leastCall 92 = .ok (.iconst (-1), 1) := by decide +kernel
theorem dX6_leastCall_93 : decode cX6_leastCall 93 = .ok (.istore 5, 2) := by decide +kernel
theorem dX6_leastCall_95 : decode cX6_leastCall 95 = .ok (.iinc 6 1, 3) := by decide +kernel
theorem dX6_leastCall_98 : decode cX6_leastCall 98 = .ok (.goto (-44), 3) := by decide +kernel
theorem dX6_leastCall_101 : decode cX6_leastCall 101 = .ok (.aload_n 0, 1) := by decide +kernel
theorem dX6_leastCall_102 : decode cX6_leastCall 102 = .ok (.getfield 13, 3) := by decide +kernel
theorem dX6_leastCall_105 : decode cX6_leastCall 105 = .ok (.bipush 24, 2) := by decide +kernel
theorem dX6_leastCall_107 : decode cX6_leastCall 107 = .ok (.iload_n 2, 1) := by decide +kernel
theorem dX6_leastCall_108 : decode cX6_leastCall 108 = .ok (.iadd, 1) := by decide +kernel
theorem dX6_leastCall_109 : decode cX6_leastCall 109 = .ok (.iload 4, 2) := by decide +kernel
theorem dX6_leastCall_111 : decode cX6_leastCall 111 = .ok (.iastore, 1) := by decide +kernel
theorem dX6_leastCall_112 : decode cX6_leastCall 112 = .ok (.aload_n 0, 1) := by decide +kernel
theorem dX6_leastCall_113 : decode cX6_leastCall 113 = .ok (.iload 5, 2) := by decide +kernel
theorem dX6_leastCall_115 : decode cX6_leastCall 115 = .ok (.invokevirtual 203, 3) := by decide +kernel
theorem dX6_leastCall_118 : decode cX6_leastCall 118 = .ok (.ireturn, 1) := by decide +kernel
theorem dX6_neededMoves_0 : decode cX6_neededMoves 0 = .ok (.aload_n 0, 1) := by decide +kernel
theorem dX6_neededMoves_1 : decode cX6_neededMoves 1 = .ok (.invokevirtual 96, 3) := by decide +kernel
theorem dX6_neededMoves_4 : decode cX6_neededMoves 4 = .ok (.istore_n 1, 1) := by decide +kernel
theorem dX6_neededMoves_5 : decode cX6_neededMoves 5 = .ok (.iconst 0, 1) := by decide +kernel
theorem dX6_neededMoves_6 : decode cX6_neededMoves 6 = .ok (.istore_n 2, 1) := by decide +kernel
theorem dX6_neededMoves_7 : decode cX6_neededMoves 7 = .ok (.iconst 0, 1) := by decide +kernel
theorem dX6_neededMoves_8 : decode cX6_neededMoves 8 = .ok (.istore_n 3, 1) := by decide +kernel
theorem dX6_neededMoves_9 : decode cX6_neededMoves 9 = .ok (.iload_n 3, 1) := by decide +kernel
theorem dX6_neededMoves_10 : decode cX6_neededMoves 10 = .ok (.aload_n 0, 1) := by decide +kernel
theorem dX6_neededMoves_11 : decode cX6_neededMoves 11 = .ok (.getfield 13, 3) := by decide +kernel
theorem dX6_neededMoves_14 : decode cX6_neededMoves 14 = .ok (.iconst 1, 1) := by decide +kernel
theorem dX6_neededMoves_15 : decode cX6_neededMoves 15 = .ok (.iaload, 1) := by decide +kernel
theorem dX6_neededMoves_16 : decode cX6_neededMoves 16 = .ok (.if_icmp .ge 26, 3) := by decide +kernel
theorem dX6_neededMoves_19 : decode cX6_neededMoves 19 = .ok (.iload_n 2, 1) := by decide +kernel
theorem dX6_neededMoves_20 : decode cX6_neededMoves 20 = .ok (.aload_n 0, 1) := by decide +kernel
theorem dX6_neededMoves_21 : decode cX6_neededMoves 21 = .ok (.iload_n 3, 1) := by decide +kernel
theorem dX6_neededMoves_22 : decode cX6_neededMoves 22 = .ok (.invokevirtual 267, 3) := by decide +kernel
theorem dX6_neededMoves_25 : decode cX6_neededMoves 25 = .ok (.iload_n 1, 1) := by decide +kernel
theorem dX6_neededMoves_26 : decode cX6_neededMoves 26 = .ok (.if_icmp .eq 7, 3) := by decide +kernel
theorem dX6_neededMoves_29 : decode cX6_neededMoves 29 = .ok (.iconst 1, 1) := by decide +kernel
theorem dX6_neededMoves_30 : decode cX6_neededMoves 30 = .ok (.goto 4, 3) := by decide +kernel
theorem dX6_neededMoves_33 : decode cX6_neededMoves 33 = .ok (.iconst 0, 1) := by decide +kernel
theorem dX6_neededMoves_34 : decode cX6_neededMoves 34 = .ok (.iadd, 1) := by decide +kernel
theorem dX6_neededMoves_35 : decode cX6_neededMoves 35 = .ok (.istore_n 2, 1) := by decide +kernel
theorem dX6_neededMoves_36 : decode cX6_neededMoves 36 = .ok (.iinc 3 1, 3) := by decide +kernel
theorem dX6_neededMoves_39 : decode cX6_neededMoves 39 = .ok (.goto (-30), 3) := by decide +kernel
theorem dX6_neededMoves_42 : decode cX6_neededMoves 42 = .ok (.aload_n 0, 1) := by decide +kernel
theorem dX6_neededMoves_43 : decode cX6_neededMoves 43 = .ok (.iload_n 2, 1) := by decide +kernel
theorem dX6_neededMoves_44 : decode cX6_neededMoves 44 = .ok (.invokevirtual 203, 3) := by decide +kernel
theorem dX6_neededMoves_47 : decode cX6_neededMoves 47 = .ok (.ireturn, 1) := by decide +kernel
theorem dX6_keyPlace_0 : decode cX6_keyPlace 0 = .ok (.aload_n 0, 1) := by decide +kernel
theorem dX6_keyPlace_1 : decode cX6_keyPlace 1 = .ok (.invokevirtual 96, 3) := by decide +kernel
theorem dX6_keyPlace_4 : decode cX6_keyPlace 4 = .ok (.istore_n 1, 1) := by decide +kernel
theorem dX6_keyPlace_5 : decode cX6_keyPlace 5 = .ok (.iconst (-1), 1) := by decide +kernel
theorem dX6_keyPlace_6 : decode cX6_keyPlace 6 = .ok (.istore_n 2, 1) := by decide +kernel
theorem dX6_keyPlace_7 : decode cX6_keyPlace 7 = .ok (.iconst 0, 1) := by decide +kernel
theorem dX6_keyPlace_8 : decode cX6_keyPlace 8 = .ok (.istore_n 3, 1) := by decide +kernel
theorem dX6_keyPlace_9 : decode cX6_keyPlace 9 = .ok (.iconst 0, 1) := by decide +kernel
theorem dX6_keyPlace_10 : decode cX6_keyPlace 10 = .ok (.istore 4, 2) := by decide +kernel
theorem dX6_keyPlace_12 : decode cX6_keyPlace 12 = .ok (.iload 4, 2) := by decide +kernel
theorem dX6_keyPlace_14 : decode cX6_keyPlace 14 = .ok (.aload_n 0, 1) := by decide +kernel
theorem dX6_keyPlace_15 : decode cX6_keyPlace 15 = .ok (.getfield 13, 3) := by decide +kernel
theorem dX6_keyPlace_18 : decode cX6_keyPlace 18 = .ok (.iconst 0, 1) := by decide +kernel
theorem dX6_keyPlace_19 : decode cX6_keyPlace 19 = .ok (.iaload, 1) := by decide +kernel
theorem dX6_keyPlace_20 : decode cX6_keyPlace 20 = .ok (.if_icmp .ge 34, 3) := by decide +kernel
theorem dX6_keyPlace_23 : decode cX6_keyPlace 23 = .ok (.iload_n 1, 1) := by decide +kernel
theorem dX6_keyPlace_24 : decode cX6_keyPlace 24 = .ok (.aload_n 0, 1) := by decide +kernel
theorem dX6_keyPlace_25 : decode cX6_keyPlace 25 = .ok (.iload 4, 2) := by decide +kernel
theorem dX6_keyPlace_27 : decode cX6_keyPlace 27 = .ok (.invokevirtual 264, 3) := by decide +kernel
theorem dX6_keyPlace_30 : decode cX6_keyPlace 30 = .ok (.ixor, 1) := by decide +kernel
theorem dX6_keyPlace_31 : decode cX6_keyPlace 31 = .ok (.invokestatic 236, 3) := by decide +kernel
theorem dX6_keyPlace_34 : decode cX6_keyPlace 34 = .ok (.istore 5, 2) := by decide +kernel
theorem dX6_keyPlace_36 : decode cX6_keyPlace 36 = .ok (.iload 5, 2) := by decide +kernel
theorem dX6_keyPlace_38 : decode cX6_keyPlace 38 = .ok (.iload_n 3, 1) := by decide +kernel
theorem dX6_keyPlace_39 : decode cX6_keyPlace 39 = .ok (.if_icmp .le 9, 3) := by decide +kernel
theorem dX6_keyPlace_42 : decode cX6_keyPlace 42 = .ok (.iload 4, 2) := by decide +kernel
theorem dX6_keyPlace_44 : decode cX6_keyPlace 44 = .ok (.istore_n 2, 1) := by decide +kernel
theorem dX6_keyPlace_45 : decode cX6_keyPlace 45 = .ok (.iload 5, 2) := by decide +kernel
theorem dX6_keyPlace_47 : decode cX6_keyPlace 47 = .ok (.istore_n 3, 1) := by decide +kernel
theorem dX6_keyPlace_48 : decode cX6_keyPlace 48 = .ok (.iinc 4 1, 3) := by decide +kernel
theorem dX6_keyPlace_51 : decode cX6_keyPlace 51 = .ok (.goto (-39), 3) := by decide +kernel
theorem dX6_keyPlace_54 : decode cX6_keyPlace 54 = .ok (.aload_n 0, 1) := by decide +kernel
theorem dX6_keyPlace_55 : decode cX6_keyPlace 55 = .ok (.iload_n 2, 1) := by decide +kernel
theorem dX6_keyPlace_56 : decode cX6_keyPlace 56 = .ok (.invokevirtual 203, 3) := by decide +kernel
theorem dX6_keyPlace_59 : decode cX6_keyPlace 59 = .ok (.ireturn, 1) := by decide +kernel
theorem dX6_addPlace_0 : decode cX6_addPlace 0 = .ok (.iload_n 1, 1) := by decide +kernel
theorem dX6_addPlace_1 : decode cX6_addPlace 1 = .ok (.iconst 0, 1) := by decide +kernel
theorem dX6_addPlace_2 : decode cX6_addPlace 2 = .ok (.iconst 1, 1) := by decide +kernel
theorem dX6_addPlace_3 : decode cX6_addPlace 3 = .ok (.invokestatic 68, 3) := by decide +kernel
theorem dX6_addPlace_6 : decode cX6_addPlace 6 = .ok (.ifCond .eq 13, 3) := by decide +kernel
theorem dX6_addPlace_9 : decode cX6_addPlace 9 = .ok (.iload_n 2, 1) := by decide +kernel
theorem dX6_addPlace_10 : decode cX6_addPlace 10 = .ok (.iconst 0, 1) := by decide +kernel
theorem dX6_addPlace_11 : decode cX6_addPlace 11 = .ok (.bipush 9, 2) := by decide +kernel
theorem dX6_addPlace_13 : decode cX6_addPlace 13 = .ok (.invokestatic 68, 3) := by decide +kernel
theorem dX6_addPlace_16 : decode cX6_addPlace 16 = .ok (.ifCond .ne 9, 3) := by decide +kernel
theorem dX6_addPlace_19 : decode cX6_addPlace 19 = .ok (.aload_n 0, 1) := by decide +kernel
theorem dX6_addPlace_20 : decode cX6_addPlace 20 = .ok (.iconst 1, 1) := by decide +kernel
theorem dX6_addPlace_21 : decode cX6_addPlace 21 = .ok (.invokevirtual 197, 3) := by decide +kernel
theorem dX6_addPlace_24 : decode cX6_addPlace 24 = .ok (.ireturn, 1) := by decide +kernel
theorem dX6_addPlace_25 : decode cX6_addPlace 25 = .ok (.aload_n 0, 1) := by decide +kernel
theorem dX6_addPlace_26 : decode cX6_addPlace 26 = .ok (.getfield 13, 3) := by decide +kernel
theorem dX6_addPlace_29 : decode cX6_addPlace 29 = .ok (.iconst 0, 1) := by decide +kernel
theorem dX6_addPlace_30 : decode cX6_addPlace 30 = .ok (.iaload, 1) := by decide +kernel
theorem dX6_addPlace_31 : decode cX6_addPlace 31 = .ok (.bipush 20, 2) := by decide +kernel
theorem dX6_addPlace_33 : decode cX6_addPlace 33 = .ok (.if_icmp .ne 9, 3) := by decide +kernel
theorem dX6_addPlace_36 : decode cX6_addPlace 36 = .ok (.aload_n 0, 1) := by decide +kernel
theorem dX6_addPlace_37 : decode cX6_addPlace 37 = .ok (.iconst 2, 1) := by decide +kernel
theorem dX6_addPlace_38 : decode cX6_addPlace 38 = .ok (.invokevirtual 197, 3) := by decide +kernel
theorem dX6_addPlace_41 : decode cX6_addPlace 41 = .ok (.ireturn, 1) := by decide +kernel
theorem dX6_addPlace_42 : decode cX6_addPlace 42 = .ok (.aload_n 0, 1) := by decide +kernel
theorem dX6_addPlace_43 : decode cX6_addPlace 43 = .ok (.invokevirtual 270, 3) := by decide +kernel
theorem dX6_addPlace_46 : decode cX6_addPlace 46 = .ok (.aload_n 0, 1) := by decide +kernel
theorem dX6_addPlace_47 : decode cX6_addPlace 47 = .ok (.iload_n 1, 1) := by decide +kernel
theorem dX6_addPlace_48 : decode cX6_addPlace 48 = .ok (.iload_n 2, 1) := by decide +kernel
theorem dX6_addPlace_49 : decode cX6_addPlace 49 = .ok (.invokevirtual 54, 3) := by decide +kernel
theorem dX6_addPlace_52 : decode cX6_addPlace 52 = .ok (.aload_n 0, 1) := by decide +kernel
theorem dX6_addPlace_53 : decode cX6_addPlace 53 = .ok (.aload_n 0, 1) := by decide +kernel
theorem dX6_addPlace_54 : decode cX6_addPlace 54 = .ok (.getfield 13, 3) := by decide +kernel
theorem dX6_addPlace_57 : decode cX6_addPlace 57 = .ok (.iconst 0, 1) := by decide +kernel
theorem dX6_addPlace_58 : decode cX6_addPlace 58 = .ok (.iaload, 1) := by decide +kernel
theorem dX6_addPlace_59 : decode cX6_addPlace 59 = .ok (.iconst 1, 1) := by decide +kernel
theorem dX6_addPlace_60 : decode cX6_addPlace 60 = .ok (.isub, 1) := by decide +kernel
theorem dX6_addPlace_61 : decode cX6_addPlace 61 = .ok (.invokevirtual 203, 3) := by decide +kernel
theorem dX6_addPlace_64 : decode cX6_addPlace 64 = .ok (.ireturn, 1) := by decide +kernel
theorem dX6_drops_0 : decode cX6_drops 0 = .ok (.aload_n 0, 1) := by decide +kernel
theorem dX6_drops_1 : decode cX6_drops 1 = .ok (.getfield 13, 3) := by decide +kernel
theorem dX6_drops_4 : decode cX6_drops 4 = .ok (.iconst 1, 1) := by decide +kernel
theorem dX6_drops_5 : decode cX6_drops 5 = .ok (.dup2, 1) := by decide +kernel
theorem dX6_drops_6 : decode cX6_drops 6 = .ok (.iaload, 1) := by decide +kernel
theorem dX6_drops_7 : decode cX6_drops 7 = .ok (.iconst 1, 1) := by decide +kernel
theorem dX6_drops_8 : decode cX6_drops 8 = .ok (.isub, 1) := by decide +kernel
theorem dX6_drops_9 : decode cX6_drops 9 = .ok (.iastore, 1) := by decide +kernel
theorem dX6_drops_10 : decode cX6_drops 10 = .ok (.iload_n 1, 1) := by decide +kernel
theorem dX6_drops_11 : decode cX6_drops 11 = .ok (.istore_n 2, 1) := by decide +kernel
theorem dX6_drops_12 : decode cX6_drops 12 = .ok (.iload_n 2, 1) := by decide +kernel
theorem dX6_drops_13 : decode cX6_drops 13 = .ok (.aload_n 0, 1) := by decide +kernel
theorem dX6_drops_14 : decode cX6_drops 14 = .ok (.getfield 13, 3) := by decide +kernel
theorem dX6_drops_17 : decode cX6_drops 17 = .ok (.iconst 1, 1) := by decide +kernel
theorem dX6_drops_18 : decode cX6_drops 18 = .ok (.iaload, 1) := by decide +kernel
theorem dX6_drops_19 : decode cX6_drops 19 = .ok (.if_icmp .ge 49, 3) := by decide +kernel
theorem dX6_drops_22 : decode cX6_drops 22 = .ok (.aload_n 0, 1) := by decide +kernel
theorem dX6_drops_23 : decode cX6_drops 23 = .ok (.getfield 13, 3) := by decide +kernel
theorem dX6_drops_26 : decode cX6_drops 26 = .ok (.bipush 44, 2) := by decide +kernel
theorem dX6_drops_28 : decode cX6_drops 28 = .ok (.iload_n 2, 1) := by decide +kernel
theorem dX6_drops_29 : decode cX6_drops 29 = .ok (.iadd, 1) := by decide +kernel
theorem dX6_drops_30 : decode cX6_drops 30 = .ok (.aload_n 0, 1) := by decide +kernel
theorem dX6_drops_31 : decode cX6_drops 31 = .ok (.getfield 13, 3) := by decide +kernel
theorem dX6_drops_34 : decode cX6_drops 34 = .ok (.bipush 44, 2) := by decide +kernel
theorem dX6_drops_36 : decode cX6_drops 36 = .ok (.iload_n 2, 1) := by decide +kernel
theorem dX6_drops_37 : decode cX6_drops 37 = .ok (.iadd, 1) := by decide +kernel
theorem dX6_drops_38 : decode cX6_drops 38 = .ok (.iconst 1, 1) := by decide +kernel
theorem dX6_drops_39 : decode cX6_drops 39 = .ok (.iadd, 1) := by decide +kernel
theorem dX6_drops_40 : decode cX6_drops 40 = .ok (.iaload, 1) := by decide +kernel
theorem dX6_drops_41 : decode cX6_drops 41 = .ok (.iastore, 1) := by decide +kernel
theorem dX6_drops_42 : decode cX6_drops 42 = .ok (.aload_n 0, 1) := by decide +kernel
theorem dX6_drops_43 : decode cX6_drops 43 = .ok (.getfield 13, 3) := by decide +kernel
theorem dX6_drops_46 : decode cX6_drops 46 = .ok (.bipush 105, 2) := by decide +kernel
theorem dX6_drops_48 : decode cX6_drops 48 = .ok (.iload_n 2, 1) := by decide +kernel
theorem dX6_drops_49 : decode cX6_drops 49 = .ok (.iadd, 1) := by decide +kernel
theorem dX6_drops_50 : decode cX6_drops 50 = .ok (.aload_n 0, 1) := by decide +kernel
theorem dX6_drops_51 : decode cX6_drops 51 = .ok (.getfield 13, 3) := by decide +kernel
theorem dX6_drops_54 : decode cX6_drops 54 = .ok (.bipush 105, 2) := by decide +kernel
theorem dX6_drops_56 : decode cX6_drops 56 = .ok (.iload_n 2, 1) := by decide +kernel
theorem dX6_drops_57 : decode cX6_drops 57 = .ok (.iadd, 1) := by decide +kernel
theorem dX6_drops_58 : decode cX6_drops 58 = .ok (.iconst 1, 1) := by decide +kernel
theorem dX6_drops_59 : decode cX6_drops 59 = .ok (.iadd, 1) := by decide +kernel
theorem dX6_drops_60 : decode cX6_drops 60 = .ok (.iaload, 1) := by decide +kernel
theorem dX6_drops_61 : decode cX6_drops 61 = .ok (.iastore, 1) := by decide +kernel
theorem dX6_drops_62 : decode cX6_drops 62 = .ok (.iinc 2 1, 3) := by decide +kernel
theorem dX6_drops_65 : decode cX6_drops 65 = .ok (.goto (-53), 3) := by decide +kernel
theorem dX6_drops_68 : decode cX6_drops 68 = .ok (.return_, 1) := by decide +kernel
theorem dX6_removePlace_0 : decode cX6_removePlace 0 = .ok (.aload_n 0, 1) := by decide +kernel
theorem dX6_removePlace_1 : decode cX6_removePlace 1 = .ok (.iload_n 1, 1) := by decide +kernel
theorem dX6_removePlace_2 : decode cX6_removePlace 2 = .ok (.invokevirtual 173, 3) := by decide +kernel
theorem dX6_removePlace_5 : decode cX6_removePlace 5 = .ok (.ifCond .ne 9, 3) := by decide +kernel
theorem dX6_removePlace_8 : decode cX6_removePlace 8 = .ok (.aload_n 0, 1) := by decide +kernel
theorem dX6_removePlace_9 : decode cX6_removePlace 9 = .ok (.iconst 1, 1) := by decide +kernel
theorem dX6_removePlace_10 : decode cX6_removePlace 10 = .ok (.invokevirtual 197, 3) := by decide +kernel
theorem dX6_removePlace_13 : decode cX6_removePlace 13 = .ok (.ireturn, 1) := by decide +kernel
theorem dX6_removePlace_14 : decode cX6_removePlace 14 = .ok (.aload_n 0, 1) := by decide +kernel
theorem dX6_removePlace_15 : decode cX6_removePlace 15 = .ok (.getfield 13, 3) := by decide +kernel
theorem dX6_removePlace_18 : decode cX6_removePlace 18 = .ok (.iconst 0, 1) := by decide +kernel
theorem dX6_removePlace_19 : decode cX6_removePlace 19 = .ok (.iaload, 1) := by decide +kernel
theorem dX6_removePlace_20 : decode cX6_removePlace 20 = .ok (.iconst 1, 1) := by decide +kernel
theorem dX6_removePlace_21 : decode cX6_removePlace 21 = .ok (.if_icmp .ne 9, 3) := by decide +kernel
theorem dX6_removePlace_24 : decode cX6_removePlace 24 = .ok (.aload_n 0, 1) := by decide +kernel
theorem dX6_removePlace_25 : decode cX6_removePlace 25 = .ok (.iconst 2, 1) := by decide +kernel
theorem dX6_removePlace_26 : decode cX6_removePlace 26 = .ok (.invokevirtual 197, 3) := by decide +kernel
theorem dX6_removePlace_29 : decode cX6_removePlace 29 = .ok (.ireturn, 1) := by decide +kernel
theorem dX6_removePlace_30 : decode cX6_removePlace 30 = .ok (.aload_n 0, 1) := by decide +kernel
theorem dX6_removePlace_31 : decode cX6_removePlace 31 = .ok (.invokevirtual 270, 3) := by decide +kernel
theorem dX6_removePlace_34 : decode cX6_removePlace 34 = .ok (.aload_n 0, 1) := by decide +kernel
theorem dX6_removePlace_35 : decode cX6_removePlace 35 = .ok (.getfield 13, 3) := by decide +kernel
theorem dX6_removePlace_38 : decode cX6_removePlace 38 = .ok (.iconst 1, 1) := by decide +kernel
theorem dX6_removePlace_39 : decode cX6_removePlace 39 = .ok (.iaload, 1) := by decide +kernel
theorem dX6_removePlace_40 : decode cX6_removePlace 40 = .ok (.istore_n 2, 1) := by decide +kernel
theorem dX6_removePlace_41 : decode cX6_removePlace 41 = .ok (.aload_n 0, 1) := by decide +kernel
theorem dX6_removePlace_42 : decode cX6_removePlace 42 = .ok (.getfield 13, 3) := by decide +kernel
theorem dX6_removePlace_45 : decode cX6_removePlace 45 = .ok (.iconst 1, 1) := by decide +kernel
theorem dX6_removePlace_46 : decode cX6_removePlace 46 = .ok (.iaload, 1) := by decide +kernel
theorem dX6_removePlace_47 : decode cX6_removePlace 47 = .ok (.iconst 1, 1) := by decide +kernel
theorem dX6_removePlace_48 : decode cX6_removePlace 48 = .ok (.isub, 1) := by decide +kernel
theorem dX6_removePlace_49 : decode cX6_removePlace 49 = .ok (.istore_n 3, 1) := by decide +kernel
theorem dX6_removePlace_50 : decode cX6_removePlace 50 = .ok (.iload_n 3, 1) := by decide +kernel
theorem dX6_removePlace_51 : decode cX6_removePlace 51 = .ok (.ifCond .lt 40, 3) := by decide +kernel
theorem dX6_removePlace_54 : decode cX6_removePlace 54 = .ok (.aload_n 0, 1) := by decide +kernel
theorem dX6_removePlace_55 : decode cX6_removePlace 55 = .ok (.getfield 13, 3) := by decide +kernel
theorem dX6_removePlace_58 : decode cX6_removePlace 58 = .ok (.bipush 44, 2) := by decide +kernel
theorem dX6_removePlace_60 : decode cX6_removePlace 60 = .ok (.iload_n 3, 1) := by decide +kernel
theorem dX6_removePlace_61 : decode cX6_removePlace 61 = .ok (.iadd, 1) := by decide +kernel
theorem dX6_removePlace_62 : decode cX6_removePlace 62 = .ok (.iaload, 1) := by decide +kernel
theorem dX6_removePlace_63 : decode cX6_removePlace 63 = .ok (.iload_n 1, 1) := by decide +kernel
theorem dX6_removePlace_64 : decode cX6_removePlace 64 = .ok (.if_icmp .eq 16, 3) := by decide +kernel
theorem dX6_removePlace_67 : decode cX6_removePlace 67 = .ok (.aload_n 0, 1) := by decide +kernel
theorem dX6_removePlace_68 : decode cX6_removePlace 68 = .ok (.getfield 13, 3) := by decide +kernel
theorem dX6_removePlace_71 : decode cX6_removePlace 71 = .ok (.bipush 105, 2) := by decide +kernel
theorem dX6_removePlace_73 : decode cX6_removePlace 73 = .ok (.iload_n 3, 1) := by decide +kernel
theorem dX6_removePlace_74 : decode cX6_removePlace 74 = .ok (.iadd, 1) := by decide +kernel
theorem dX6_removePlace_75 : decode cX6_removePlace 75 = .ok (.iaload, 1) := by decide +kernel
theorem dX6_removePlace_76 : decode cX6_removePlace 76 = .ok (.iload_n 1, 1) := by decide +kernel
theorem dX6_removePlace_77 : decode cX6_removePlace 77 = .ok (.if_icmp .ne 8, 3) := by decide +kernel
theorem dX6_removePlace_80 : decode cX6_removePlace 80 = .ok (.aload_n 0, 1) := by decide +kernel
theorem dX6_removePlace_81 : decode cX6_removePlace 81 = .ok (.iload_n 3, 1) := by decide +kernel
theorem dX6_removePlace_82 : decode cX6_removePlace 82 = .ok (.invokevirtual 273, 3) := by decide +kernel
theorem dX6_removePlace_85 : decode cX6_removePlace 85 = .ok (.iinc 3 (-1), 3) := by decide +kernel
theorem dX6_removePlace_88 : decode cX6_removePlace 88 = .ok (.goto (-38), 3) := by decide +kernel
theorem dX6_removePlace_91 : decode cX6_removePlace 91 = .ok (.iconst 0, 1) := by decide +kernel
theorem dX6_removePlace_92 : decode cX6_removePlace 92 = .ok (.istore_n 3, 1) := by decide +kernel
theorem dX6_removePlace_93 : decode cX6_removePlace 93 = .ok (.iload_n 3, 1) := by decide +kernel
theorem dX6_removePlace_94 : decode cX6_removePlace 94 = .ok (.aload_n 0, 1) := by decide +kernel
theorem dX6_removePlace_95 : decode cX6_removePlace 95 = .ok (.getfield 13, 3) := by decide +kernel
theorem dX6_removePlace_98 : decode cX6_removePlace 98 = .ok (.iconst 1, 1) := by decide +kernel
theorem dX6_removePlace_99 : decode cX6_removePlace 99 = .ok (.iaload, 1) := by decide +kernel
theorem dX6_removePlace_100 : decode cX6_removePlace 100 = .ok (.if_icmp .ge 69, 3) := by decide +kernel
theorem dX6_removePlace_103 : decode cX6_removePlace 103 = .ok (.aload_n 0, 1) := by decide +kernel
theorem dX6_removePlace_104 : decode cX6_removePlace 104 = .ok (.getfield 13, 3) := by decide +kernel
theorem dX6_removePlace_107 : decode cX6_removePlace 107 = .ok (.bipush 44, 2) := by decide +kernel
theorem dX6_removePlace_109 : decode cX6_removePlace 109 = .ok (.iload_n 3, 1) := by decide +kernel
theorem dX6_removePlace_110 : decode cX6_removePlace 110 = .ok (.iadd, 1) := by decide +kernel
theorem dX6_removePlace_111 : decode cX6_removePlace 111 = .ok (.dup2, 1) := by decide +kernel
theorem dX6_removePlace_112 : decode cX6_removePlace 112 = .ok (.iaload, 1) := by decide +kernel
theorem dX6_removePlace_113 : decode cX6_removePlace 113 = .ok (.aload_n 0, 1) := by decide +kernel
theorem dX6_removePlace_114 : decode cX6_removePlace 114 = .ok (.getfield 13, 3) := by decide +kernel
theorem dX6_removePlace_117 : decode cX6_removePlace 117 = .ok (.bipush 44, 2) := by decide +kernel
theorem dX6_removePlace_119 : decode cX6_removePlace 119 = .ok (.iload_n 3, 1) := by decide +kernel
theorem dX6_removePlace_120 : decode cX6_removePlace 120 = .ok (.iadd, 1) := by decide +kernel
theorem dX6_removePlace_121 : decode cX6_removePlace 121 = .ok (.iaload, 1) := by decide +kernel
theorem dX6_removePlace_122 : decode cX6_removePlace 122 = .ok (.iload_n 1, 1) := by decide +kernel
theorem dX6_removePlace_123 : decode cX6_removePlace 123 = .ok (.if_icmp .le 7, 3) := by decide +kernel
theorem dX6_removePlace_126 : decode cX6_removePlace 126 = .ok (.iconst 1, 1) := by decide +kernel
theorem dX6_removePlace_127 : decode cX6_removePlace 127 = .ok (.goto 4, 3) := by decide +kernel
theorem dX6_removePlace_130 : decode cX6_removePlace 130 = .ok (.iconst 0, 1) := by decide +kernel
theorem dX6_removePlace_131 : decode cX6_removePlace 131 = .ok (.isub, 1) := by decide +kernel
theorem dX6_removePlace_132 : decode cX6_removePlace 132 = .ok (.iastore, 1) := by decide +kernel
theorem dX6_removePlace_133 : decode cX6_removePlace 133 = .ok (.aload_n 0, 1) := by decide +kernel
theorem dX6_removePlace_134 : decode cX6_removePlace 134 = .ok (.getfield 13, 3) := by decide +kernel
theorem dX6_removePlace_137 : decode cX6_removePlace 137 = .ok (.bipush 105, 2) := by decide +kernel
theorem dX6_removePlace_139 : decode cX6_removePlace 139 = .ok (.iload_n 3, 1) := by decide +kernel
theorem dX6_removePlace_140 : decode cX6_removePlace 140 = .ok (.iadd, 1) := by decide +kernel
theorem dX6_removePlace_141 : decode cX6_removePlace 141 = .ok (.dup2, 1) := by decide +kernel
theorem dX6_removePlace_142 : decode cX6_removePlace 142 = .ok (.iaload, 1) := by decide +kernel
theorem dX6_removePlace_143 : decode cX6_removePlace 143 = .ok (.aload_n 0, 1) := by decide +kernel
theorem dX6_removePlace_144 : decode cX6_removePlace 144 = .ok (.getfield 13, 3) := by decide +kernel
theorem dX6_removePlace_147 : decode cX6_removePlace 147 = .ok (.bipush 105, 2) := by decide +kernel
theorem dX6_removePlace_149 : decode cX6_removePlace 149 = .ok (.iload_n 3, 1) := by decide +kernel
theorem dX6_removePlace_150 : decode cX6_removePlace 150 = .ok (.iadd, 1) := by decide +kernel
theorem dX6_removePlace_151 : decode cX6_removePlace 151 = .ok (.iaload, 1) := by decide +kernel
theorem dX6_removePlace_152 : decode cX6_removePlace 152 = .ok (.iload_n 1, 1) := by decide +kernel
theorem dX6_removePlace_153 : decode cX6_removePlace 153 = .ok (.if_icmp .le 7, 3) := by decide +kernel
theorem dX6_removePlace_156 : decode cX6_removePlace 156 = .ok (.iconst 1, 1) := by decide +kernel
theorem dX6_removePlace_157 : decode cX6_removePlace 157 = .ok (.goto 4, 3) := by decide +kernel
theorem dX6_removePlace_160 : decode cX6_removePlace 160 = .ok (.iconst 0, 1) := by decide +kernel
theorem dX6_removePlace_161 : decode cX6_removePlace 161 = .ok (.isub, 1) := by decide +kernel
theorem dX6_removePlace_162 : decode cX6_removePlace 162 = .ok (.iastore, 1) := by decide +kernel
theorem dX6_removePlace_163 : decode cX6_removePlace 163 = .ok (.iinc 3 1, 3) := by decide +kernel
theorem dX6_removePlace_166 : decode cX6_removePlace 166 = .ok (.goto (-73), 3) := by decide +kernel
theorem dX6_removePlace_169 : decode cX6_removePlace 169 = .ok (.aload_n 0, 1) := by decide +kernel
theorem dX6_removePlace_170 : decode cX6_removePlace 170 = .ok (.getfield 13, 3) := by decide +kernel
theorem dX6_removePlace_173 : decode cX6_removePlace 173 = .ok (.iconst 0, 1) := by decide +kernel
theorem dX6_removePlace_174 : decode cX6_removePlace 174 = .ok (.dup2, 1) := by decide +kernel
theorem dX6_removePlace_175 : decode cX6_removePlace 175 = .ok (.iaload, 1) := by decide +kernel
theorem dX6_removePlace_176 : decode cX6_removePlace 176 = .ok (.iconst 1, 1) := by decide +kernel
theorem dX6_removePlace_177 : decode cX6_removePlace 177 = .ok (.isub, 1) := by decide +kernel
theorem dX6_removePlace_178 : decode cX6_removePlace 178 = .ok (.iastore, 1) := by decide +kernel
theorem dX6_removePlace_179 : decode cX6_removePlace 179 = .ok (.iload_n 1, 1) := by decide +kernel
theorem dX6_removePlace_180 : decode cX6_removePlace 180 = .ok (.istore_n 3, 1) := by decide +kernel
theorem dX6_removePlace_181 : decode cX6_removePlace 181 = .ok (.iload_n 3, 1) := by decide +kernel
theorem dX6_removePlace_182 : decode cX6_removePlace 182 = .ok (.aload_n 0, 1) := by decide +kernel
theorem dX6_removePlace_183 : decode cX6_removePlace 183 = .ok (.getfield 13, 3) := by decide +kernel
theorem dX6_removePlace_186 : decode cX6_removePlace 186 = .ok (.iconst 0, 1) := by decide +kernel
theorem dX6_removePlace_187 : decode cX6_removePlace 187 = .ok (.iaload, 1) := by decide +kernel
theorem dX6_removePlace_188 : decode cX6_removePlace 188 = .ok (.if_icmp .ge 47, 3) := by decide +kernel
theorem dX6_removePlace_191 : decode cX6_removePlace 191 = .ok (.aload_n 0, 1) := by decide +kernel
theorem dX6_removePlace_192 : decode cX6_removePlace 192 = .ok (.getfield 13, 3) := by decide +kernel
theorem dX6_removePlace_195 : decode cX6_removePlace 195 = .ok (.iconst 4, 1) := by decide +kernel
theorem dX6_removePlace_196 : decode cX6_removePlace 196 = .ok (.iload_n 3, 1) := by decide +kernel
theorem dX6_removePlace_197 : decode cX6_removePlace 197 = .ok (.iadd, 1) := by decide +kernel
theorem dX6_removePlace_198 : decode cX6_removePlace 198 = .ok (.aload_n 0, 1) := by decide +kernel
theorem dX6_removePlace_199 : decode cX6_removePlace 199 = .ok (.getfield 13, 3) := by decide +kernel
theorem dX6_removePlace_202 : decode cX6_removePlace 202 = .ok (.iconst 4, 1) := by decide +kernel
theorem dX6_removePlace_203 : decode cX6_removePlace 203 = .ok (.iload_n 3, 1) := by decide +kernel
theorem dX6_removePlace_204 : decode cX6_removePlace 204 = .ok (.iadd, 1) := by decide +kernel
theorem dX6_removePlace_205 : decode cX6_removePlace 205 = .ok (.iconst 1, 1) := by decide +kernel
theorem dX6_removePlace_206 : decode cX6_removePlace 206 = .ok (.iadd, 1) := by decide +kernel
theorem dX6_removePlace_207 : decode cX6_removePlace 207 = .ok (.iaload, 1) := by decide +kernel
theorem dX6_removePlace_208 : decode cX6_removePlace 208 = .ok (.iastore, 1) := by decide +kernel
theorem dX6_removePlace_209 : decode cX6_removePlace 209 = .ok (.aload_n 0, 1) := by decide +kernel
theorem dX6_removePlace_210 : decode cX6_removePlace 210 = .ok (.getfield 13, 3) := by decide +kernel
theorem dX6_removePlace_213 : decode cX6_removePlace 213 = .ok (.bipush 24, 2) := by decide +kernel
theorem dX6_removePlace_215 : decode cX6_removePlace 215 = .ok (.iload_n 3, 1) := by decide +kernel
theorem dX6_removePlace_216 : decode cX6_removePlace 216 = .ok (.iadd, 1) := by decide +kernel
theorem dX6_removePlace_217 : decode cX6_removePlace 217 = .ok (.aload_n 0, 1) := by decide +kernel
theorem dX6_removePlace_218 : decode cX6_removePlace 218 = .ok (.getfield 13, 3) := by decide +kernel
theorem dX6_removePlace_221 : decode cX6_removePlace 221 = .ok (.bipush 24, 2) := by decide +kernel
theorem dX6_removePlace_223 : decode cX6_removePlace 223 = .ok (.iload_n 3, 1) := by decide +kernel
theorem dX6_removePlace_224 : decode cX6_removePlace 224 = .ok (.iadd, 1) := by decide +kernel
theorem dX6_removePlace_225 : decode cX6_removePlace 225 = .ok (.iconst 1, 1) := by decide +kernel
theorem dX6_removePlace_226 : decode cX6_removePlace 226 = .ok (.iadd, 1) := by decide +kernel
theorem dX6_removePlace_227 : decode cX6_removePlace 227 = .ok (.iaload, 1) := by decide +kernel
theorem dX6_removePlace_228 : decode cX6_removePlace 228 = .ok (.iastore, 1) := by decide +kernel
theorem dX6_removePlace_229 : decode cX6_removePlace 229 = .ok (.iinc 3 1, 3) := by decide +kernel
theorem dX6_removePlace_232 : decode cX6_removePlace 232 = .ok (.goto (-51), 3) := by decide +kernel
theorem dX6_removePlace_235 : decode cX6_removePlace 235 = .ok (.aload_n 0, 1) := by decide +kernel
theorem dX6_removePlace_236 : decode cX6_removePlace 236 = .ok (.iconst 0, 1) := by decide +kernel
theorem dX6_removePlace_237 : decode cX6_removePlace 237 = .ok (.invokevirtual 61, 3) := by decide +kernel
theorem dX6_removePlace_240 : decode cX6_removePlace 240 = .ok (.aload_n 0, 1) := by decide +kernel
theorem dX6_removePlace_241 : decode cX6_removePlace 241 = .ok (.iload_n 2, 1) := by decide +kernel
theorem dX6_removePlace_242 : decode cX6_removePlace 242 = .ok (.aload_n 0, 1) := by decide +kernel
theorem dX6_removePlace_243 : decode cX6_removePlace 243 = .ok (.getfield 13, 3) := by decide +kernel
theorem dX6_removePlace_246 : decode cX6_removePlace 246 = .ok (.iconst 1, 1) := by decide +kernel
theorem dX6_removePlace_247 : decode cX6_removePlace 247 = .ok (.iaload, 1) := by decide +kernel
theorem dX6_removePlace_248 : decode cX6_removePlace 248 = .ok (.isub, 1) := by decide +kernel
theorem dX6_removePlace_249 : decode cX6_removePlace 249 = .ok (.invokevirtual 203, 3) := by decide +kernel
theorem dX6_removePlace_252 : decode cX6_removePlace 252 = .ok (.ireturn, 1) := by decide +kernel
theorem dX6_sets_0 : decode cX6_sets 0 = .ok (.aload_n 0, 1) := by decide +kernel
theorem dX6_sets_1 : decode cX6_sets 1 = .ok (.invokevirtual 270, 3) := by decide +kernel
theorem dX6_sets_4 : decode cX6_sets 4 = .ok (.aload_n 0, 1) := by decide +kernel
theorem dX6_sets_5 : decode cX6_sets 5 = .ok (.getfield 13, 3) := by decide +kernel
theorem dX6_sets_8 : decode cX6_sets 8 = .ok (.iload_n 1, 1) := by decide +kernel
theorem dX6_sets_9 : decode cX6_sets 9 = .ok (.iaload, 1) := by decide +kernel
theorem dX6_sets_10 : decode cX6_sets 10 = .ok (.istore_n 3, 1) := by decide +kernel
theorem dX6_sets_11 : decode cX6_sets 11 = .ok (.aload_n 0, 1) := by decide +kernel
theorem dX6_sets_12 : decode cX6_sets 12 = .ok (.getfield 13, 3) := by decide +kernel
theorem dX6_sets_15 : decode cX6_sets 15 = .ok (.iload_n 1, 1) := by decide +kernel
theorem dX6_sets_16 : decode cX6_sets 16 = .ok (.iload_n 2, 1) := by decide +kernel
theorem dX6_sets_17 : decode cX6_sets 17 = .ok (.iastore, 1) := by decide +kernel
theorem dX6_sets_18 : decode cX6_sets 18 = .ok (.aload_n 0, 1) := by decide +kernel
theorem dX6_sets_19 : decode cX6_sets 19 = .ok (.iload_n 3, 1) := by decide +kernel
theorem dX6_sets_20 : decode cX6_sets 20 = .ok (.invokevirtual 203, 3) := by decide +kernel
theorem dX6_sets_23 : decode cX6_sets 23 = .ok (.ireturn, 1) := by decide +kernel
theorem dX6_setOwner_0 : decode cX6_setOwner 0 = .ok (.aload_n 0, 1) := by decide +kernel
theorem dX6_setOwner_1 : decode cX6_setOwner 1 = .ok (.iload_n 1, 1) := by decide +kernel
theorem dX6_setOwner_2 : decode cX6_setOwner 2 = .ok (.invokevirtual 173, 3) := by decide +kernel
theorem dX6_setOwner_5 : decode cX6_setOwner 5 = .ok (.ifCond .ne 9, 3) := by decide +kernel
theorem dX6_setOwner_8 : decode cX6_setOwner 8 = .ok (.aload_n 0, 1) := by decide +kernel
theorem dX6_setOwner_9 : decode cX6_setOwner 9 = .ok (.iconst 1, 1) := by decide +kernel
theorem dX6_setOwner_10 : decode cX6_setOwner 10 = .ok (.invokevirtual 197, 3) := by decide +kernel
theorem dX6_setOwner_13 : decode cX6_setOwner 13 = .ok (.ireturn, 1) := by decide +kernel
theorem dX6_setOwner_14 : decode cX6_setOwner 14 = .ok (.iload_n 2, 1) := by decide +kernel
theorem dX6_setOwner_15 : decode cX6_setOwner 15 = .ok (.iconst 0, 1) := by decide +kernel
theorem dX6_setOwner_16 : decode cX6_setOwner 16 = .ok (.iconst 1, 1) := by decide +kernel
theorem dX6_setOwner_17 : decode cX6_setOwner 17 = .ok (.invokestatic 68, 3) := by decide +kernel
theorem dX6_setOwner_20 : decode cX6_setOwner 20 = .ok (.ifCond .ne 9, 3) := by decide +kernel
theorem dX6_setOwner_23 : decode cX6_setOwner 23 = .ok (.aload_n 0, 1) := by decide +kernel
theorem dX6_setOwner_24 : decode cX6_setOwner 24 = .ok (.iconst 2, 1) := by decide +kernel
theorem dX6_setOwner_25 : decode cX6_setOwner 25 = .ok (.invokevirtual 197, 3) := by decide +kernel
theorem dX6_setOwner_28 : decode cX6_setOwner 28 = .ok (.ireturn, 1) := by decide +kernel
theorem dX6_setOwner_29 : decode cX6_setOwner 29 = .ok (.aload_n 0, 1) := by decide +kernel
theorem dX6_setOwner_30 : decode cX6_setOwner 30 = .ok (.iconst 4, 1) := by decide +kernel
theorem dX6_setOwner_31 : decode cX6_setOwner 31 = .ok (.iload_n 1, 1) := by decide +kernel
theorem dX6_setOwner_32 : decode cX6_setOwner 32 = .ok (.iadd, 1) := by decide +kernel
theorem dX6_setOwner_33 : decode cX6_setOwner 33 = .ok (.iload_n 2, 1) := by decide +kernel
theorem dX6_setOwner_34 : decode cX6_setOwner 34 = .ok (.invokevirtual 276, 3) := by decide +kernel
theorem dX6_setOwner_37 : decode cX6_setOwner 37 = .ok (.ireturn, 1) := by decide +kernel
theorem dX6_setCall_0 : decode cX6_setCall 0 = .ok (.aload_n 0, 1) := by decide +kernel
theorem dX6_setCall_1 : decode cX6_setCall 1 = .ok (.iload_n 1, 1) := by decide +kernel
theorem dX6_setCall_2 : decode cX6_setCall 2 = .ok (.invokevirtual 173, 3) := by decide +kernel
theorem dX6_setCall_5 : decode cX6_setCall 5 = .ok (.ifCond .ne 9, 3) := by decide +kernel
theorem dX6_setCall_8 : decode cX6_setCall 8 = .ok (.aload_n 0, 1) := by decide +kernel
theorem dX6_setCall_9 : decode cX6_setCall 9 = .ok (.iconst 1, 1) := by decide +kernel
theorem dX6_setCall_10 : decode cX6_setCall 10 = .ok (.invokevirtual 197, 3) := by decide +kernel
theorem dX6_setCall_13 : decode cX6_setCall 13 = .ok (.ireturn, 1) := by decide +kernel
theorem dX6_setCall_14 : decode cX6_setCall 14 = .ok (.iload_n 2, 1) := by decide +kernel
theorem dX6_setCall_15 : decode cX6_setCall 15 = .ok (.iconst 0, 1) := by decide +kernel
theorem dX6_setCall_16 : decode cX6_setCall 16 = .ok (.bipush 9, 2) := by decide +kernel
theorem dX6_setCall_18 : decode cX6_setCall 18 = .ok (.invokestatic 68, 3) := by decide +kernel
theorem dX6_setCall_21 : decode cX6_setCall 21 = .ok (.ifCond .ne 9, 3) := by decide +kernel
theorem dX6_setCall_24 : decode cX6_setCall 24 = .ok (.aload_n 0, 1) := by decide +kernel
theorem dX6_setCall_25 : decode cX6_setCall 25 = .ok (.iconst 2, 1) := by decide +kernel
theorem dX6_setCall_26 : decode cX6_setCall 26 = .ok (.invokevirtual 197, 3) := by decide +kernel
theorem dX6_setCall_29 : decode cX6_setCall 29 = .ok (.ireturn, 1) := by decide +kernel
theorem dX6_setCall_30 : decode cX6_setCall 30 = .ok (.aload_n 0, 1) := by decide +kernel
theorem dX6_setCall_31 : decode cX6_setCall 31 = .ok (.bipush 24, 2) := by decide +kernel
theorem dX6_setCall_33 : decode cX6_setCall 33 = .ok (.iload_n 1, 1) := by decide +kernel
theorem dX6_setCall_34 : decode cX6_setCall 34 = .ok (.iadd, 1) := by decide +kernel
theorem dX6_setCall_35 : decode cX6_setCall 35 = .ok (.iload_n 2, 1) := by decide +kernel
theorem dX6_setCall_36 : decode cX6_setCall 36 = .ok (.invokevirtual 276, 3) := by decide +kernel
theorem dX6_setCall_39 : decode cX6_setCall 39 = .ok (.ireturn, 1) := by decide +kernel
theorem dX6_addMove_0 : decode cX6_addMove 0 = .ok (.aload_n 0, 1) := by decide +kernel
theorem dX6_addMove_1 : decode cX6_addMove 1 = .ok (.iload_n 1, 1) := by decide +kernel
theorem dX6_addMove_2 : decode cX6_addMove 2 = .ok (.invokevirtual 173, 3) := by decide +kernel
theorem dX6_addMove_5 : decode cX6_addMove 5 = .ok (.ifCond .eq 11, 3) := by decide +kernel
theorem dX6_addMove_8 : decode cX6_addMove 8 = .ok (.aload_n 0, 1) := by decide +kernel
theorem dX6_addMove_9 : decode cX6_addMove 9 = .ok (.iload_n 2, 1) := by decide +kernel
theorem dX6_addMove_10 : decode cX6_addMove 10 = .ok (.invokevirtual 173, 3) := by decide +kernel
theorem dX6_addMove_13 : decode cX6_addMove 13 = .ok (.ifCond .ne 9, 3) := by decide +kernel
theorem dX6_addMove_16 : decode cX6_addMove 16 = .ok (.aload_n 0, 1) := by decide +kernel
theorem dX6_addMove_17 : decode cX6_addMove 17 = .ok (.iconst 1, 1) := by decide +kernel
theorem dX6_addMove_18 : decode cX6_addMove 18 = .ok (.invokevirtual 197, 3) := by decide +kernel
theorem dX6_addMove_21 : decode cX6_addMove 21 = .ok (.ireturn, 1) := by decide +kernel
theorem dX6_addMove_22 : decode cX6_addMove 22 = .ok (.aload_n 0, 1) := by decide +kernel
theorem dX6_addMove_23 : decode cX6_addMove 23 = .ok (.iload_n 1, 1) := by decide +kernel
theorem dX6_addMove_24 : decode cX6_addMove 24 = .ok (.iload_n 2, 1) := by decide +kernel
theorem dX6_addMove_25 : decode cX6_addMove 25 = .ok (.invokevirtual 179, 3) := by decide +kernel
theorem dX6_addMove_28 : decode cX6_addMove 28 = .ok (.iconst (-1), 1) := by decide +kernel
theorem dX6_addMove_29 : decode cX6_addMove 29 = .ok (.if_icmp .eq 9, 3) := by decide +kernel
theorem dX6_addMove_32 : decode cX6_addMove 32 = .ok (.aload_n 0, 1) := by decide +kernel
theorem dX6_addMove_33 : decode cX6_addMove 33 = .ok (.iconst 2, 1) := by decide +kernel
theorem dX6_addMove_34 : decode cX6_addMove 34 = .ok (.invokevirtual 197, 3) := by decide +kernel
theorem dX6_addMove_37 : decode cX6_addMove 37 = .ok (.ireturn, 1) := by decide +kernel
theorem dX6_addMove_38 : decode cX6_addMove 38 = .ok (.aload_n 0, 1) := by decide +kernel
theorem dX6_addMove_39 : decode cX6_addMove 39 = .ok (.getfield 13, 3) := by decide +kernel
theorem dX6_addMove_42 : decode cX6_addMove 42 = .ok (.iconst 1, 1) := by decide +kernel
theorem dX6_addMove_43 : decode cX6_addMove 43 = .ok (.iaload, 1) := by decide +kernel
theorem dX6_addMove_44 : decode cX6_addMove 44 = .ok (.bipush 60, 2) := by decide +kernel
theorem dX6_addMove_46 : decode cX6_addMove 46 = .ok (.if_icmp .ne 9, 3) := by decide +kernel
theorem dX6_addMove_49 : decode cX6_addMove 49 = .ok (.aload_n 0, 1) := by decide +kernel
theorem dX6_addMove_50 : decode cX6_addMove 50 = .ok (.iconst 3, 1) := by decide +kernel
theorem dX6_addMove_51 : decode cX6_addMove 51 = .ok (.invokevirtual 197, 3) := by decide +kernel
theorem dX6_addMove_54 : decode cX6_addMove 54 = .ok (.ireturn, 1) := by decide +kernel
theorem dX6_addMove_55 : decode cX6_addMove 55 = .ok (.aload_n 0, 1) := by decide +kernel
theorem dX6_addMove_56 : decode cX6_addMove 56 = .ok (.invokevirtual 270, 3) := by decide +kernel
theorem dX6_addMove_59 : decode cX6_addMove 59 = .ok (.aload_n 0, 1) := by decide +kernel
theorem dX6_addMove_60 : decode cX6_addMove 60 = .ok (.iload_n 1, 1) := by decide +kernel
theorem dX6_addMove_61 : decode cX6_addMove 61 = .ok (.iload_n 2, 1) := by decide +kernel
theorem dX6_addMove_62 : decode cX6_addMove 62 = .ok (.invokevirtual 58, 3) := by decide +kernel
theorem dX6_addMove_65 : decode cX6_addMove 65 = .ok (.aload_n 0, 1) := by decide +kernel
theorem dX6_addMove_66 : decode cX6_addMove 66 = .ok (.aload_n 0, 1) := by decide +kernel
theorem dX6_addMove_67 : decode cX6_addMove 67 = .ok (.getfield 13, 3) := by decide +kernel
theorem dX6_addMove_70 : decode cX6_addMove 70 = .ok (.iconst 1, 1) := by decide +kernel
theorem dX6_addMove_71 : decode cX6_addMove 71 = .ok (.iaload, 1) := by decide +kernel
theorem dX6_addMove_72 : decode cX6_addMove 72 = .ok (.iconst 1, 1) := by decide +kernel
theorem dX6_addMove_73 : decode cX6_addMove 73 = .ok (.isub, 1) := by decide +kernel
theorem dX6_addMove_74 : decode cX6_addMove 74 = .ok (.invokevirtual 203, 3) := by decide +kernel
theorem dX6_addMove_77 : decode cX6_addMove 77 = .ok (.ireturn, 1) := by decide +kernel
theorem dX6_removeMove_0 : decode cX6_removeMove 0 = .ok (.aload_n 0, 1) := by decide +kernel
theorem dX6_removeMove_1 : decode cX6_removeMove 1 = .ok (.iload_n 1, 1) := by decide +kernel
theorem dX6_removeMove_2 : decode cX6_removeMove 2 = .ok (.invokevirtual 230, 3) := by decide +kernel
theorem dX6_removeMove_5 : decode cX6_removeMove 5 = .ok (.ifCond .ne 9, 3) := by decide +kernel
theorem dX6_removeMove_8 : decode cX6_removeMove 8 = .ok (.aload_n 0, 1) := by decide +kernel
theorem dX6_removeMove_9 : decode cX6_removeMove 9 = .ok (.iconst 1, 1) := by decide +kernel
theorem dX6_removeMove_10 : decode cX6_removeMove 10 = .ok (.invokevirtual 197, 3) := by decide +kernel
theorem dX6_removeMove_13 : decode cX6_removeMove 13 = .ok (.ireturn, 1) := by decide +kernel
theorem dX6_removeMove_14 : decode cX6_removeMove 14 = .ok (.aload_n 0, 1) := by decide +kernel
theorem dX6_removeMove_15 : decode cX6_removeMove 15 = .ok (.invokevirtual 270, 3) := by decide +kernel
theorem dX6_removeMove_18 : decode cX6_removeMove 18 = .ok (.aload_n 0, 1) := by decide +kernel
theorem dX6_removeMove_19 : decode cX6_removeMove 19 = .ok (.iload_n 1, 1) := by decide +kernel
theorem dX6_removeMove_20 : decode cX6_removeMove 20 = .ok (.invokevirtual 273, 3) := by decide +kernel
theorem dX6_removeMove_23 : decode cX6_removeMove 23 = .ok (.aload_n 0, 1) := by decide +kernel
theorem dX6_removeMove_24 : decode cX6_removeMove 24 = .ok (.aload_n 0, 1) := by decide +kernel
theorem dX6_removeMove_25 : decode cX6_removeMove 25 = .ok (.getfield 13, 3) := by decide +kernel
theorem dX6_removeMove_28 : decode cX6_removeMove 28 = .ok (.iconst 1, 1) := by decide +kernel
theorem dX6_removeMove_29 : decode cX6_removeMove 29 = .ok (.iaload, 1) := by decide +kernel
theorem dX6_removeMove_30 : decode cX6_removeMove 30 = .ok (.invokevirtual 203, 3) := by decide +kernel
theorem dX6_removeMove_33 : decode cX6_removeMove 33 = .ok (.ireturn, 1) := by decide +kernel
theorem dX6_preferMove_0 : decode cX6_preferMove 0 = .ok (.aload_n 0, 1) := by decide +kernel
theorem dX6_preferMove_1 : decode cX6_preferMove 1 = .ok (.iload_n 1, 1) := by decide +kernel
theorem dX6_preferMove_2 : decode cX6_preferMove 2 = .ok (.invokevirtual 230, 3) := by decide +kernel
theorem dX6_preferMove_5 : decode cX6_preferMove 5 = .ok (.ifCond .ne 9, 3) := by decide +kernel
theorem dX6_preferMove_8 : decode cX6_preferMove 8 = .ok (.aload_n 0, 1) := by decide +kernel
theorem dX6_preferMove_9 : decode cX6_preferMove 9 = .ok (.iconst 1, 1) := by decide +kernel
theorem dX6_preferMove_10 : decode cX6_preferMove 10 = .ok (.invokevirtual 197, 3) := by decide +kernel
theorem dX6_preferMove_13 : decode cX6_preferMove 13 = .ok (.ireturn, 1) := by decide +kernel
theorem dX6_preferMove_14 : decode cX6_preferMove 14 = .ok (.aload_n 0, 1) := by decide +kernel
theorem dX6_preferMove_15 : decode cX6_preferMove 15 = .ok (.invokevirtual 270, 3) := by decide +kernel
theorem dX6_preferMove_18 : decode cX6_preferMove 18 = .ok (.aload_n 0, 1) := by decide +kernel
theorem dX6_preferMove_19 : decode cX6_preferMove 19 = .ok (.getfield 13, 3) := by decide +kernel
theorem dX6_preferMove_22 : decode cX6_preferMove 22 = .ok (.bipush 44, 2) := by decide +kernel
theorem dX6_preferMove_24 : decode cX6_preferMove 24 = .ok (.iload_n 1, 1) := by decide +kernel
theorem dX6_preferMove_25 : decode cX6_preferMove 25 = .ok (.iadd, 1) := by decide +kernel
theorem dX6_preferMove_26 : decode cX6_preferMove 26 = .ok (.iaload, 1) := by decide +kernel
theorem dX6_preferMove_27 : decode cX6_preferMove 27 = .ok (.istore_n 2, 1) := by decide +kernel
theorem dX6_preferMove_28 : decode cX6_preferMove 28 = .ok (.aload_n 0, 1) := by decide +kernel
theorem dX6_preferMove_29 : decode cX6_preferMove 29 = .ok (.getfield 13, 3) := by decide +kernel
theorem dX6_preferMove_32 : decode cX6_preferMove 32 = .ok (.bipush 105, 2) := by decide +kernel
theorem dX6_preferMove_34 : decode cX6_preferMove 34 = .ok (.iload_n 1, 1) := by decide +kernel
theorem dX6_preferMove_35 : decode cX6_preferMove 35 = .ok (.iadd, 1) := by decide +kernel
theorem dX6_preferMove_36 : decode cX6_preferMove 36 = .ok (.iaload, 1) := by decide +kernel
theorem dX6_preferMove_37 : decode cX6_preferMove 37 = .ok (.istore_n 3, 1) := by decide +kernel
theorem dX6_preferMove_38 : decode cX6_preferMove 38 = .ok (.iload_n 1, 1) := by decide +kernel
theorem dX6_preferMove_39 : decode cX6_preferMove 39 = .ok (.istore 4, 2) := by decide +kernel
theorem dX6_preferMove_41 : decode cX6_preferMove 41 = .ok (.iload 4, 2) := by decide +kernel
theorem dX6_preferMove_43 : decode cX6_preferMove 43 = .ok (.ifCond .le 53, 3) := by decide +kernel
theorem dX6_preferMove_46 : decode cX6_preferMove 46 = .ok (.aload_n 0, 1) := by decide +kernel
theorem dX6_preferMove_47 : decode cX6_preferMove 47 = .ok (.getfield 13, 3) := by decide +kernel
theorem dX6_preferMove_50 : decode cX6_preferMove 50 = .ok (.bipush 44, 2) := by decide +kernel
theorem dX6_preferMove_52 : decode cX6_preferMove 52 = .ok (.iload 4, 2) := by decide +kernel
theorem dX6_preferMove_54 : decode cX6_preferMove 54 = .ok (.iadd, 1) := by decide +kernel
theorem dX6_preferMove_55 : decode cX6_preferMove 55 = .ok (.aload_n 0, 1) := by decide +kernel
theorem dX6_preferMove_56 : decode cX6_preferMove 56 = .ok (.getfield 13, 3) := by decide +kernel
theorem dX6_preferMove_59 : decode cX6_preferMove 59 = .ok (.bipush 44, 2) := by decide +kernel
theorem dX6_preferMove_61 : decode cX6_preferMove 61 = .ok (.iload 4, 2) := by decide +kernel
theorem dX6_preferMove_63 : decode cX6_preferMove 63 = .ok (.iadd, 1) := by decide +kernel
theorem dX6_preferMove_64 : decode cX6_preferMove 64 = .ok (.iconst 1, 1) := by decide +kernel
theorem dX6_preferMove_65 : decode cX6_preferMove 65 = .ok (.isub, 1) := by decide +kernel
theorem dX6_preferMove_66 : decode cX6_preferMove 66 = .ok (.iaload, 1) := by decide +kernel
theorem dX6_preferMove_67 : decode cX6_preferMove 67 = .ok (.iastore, 1) := by decide +kernel
theorem dX6_preferMove_68 : decode cX6_preferMove 68 = .ok (.aload_n 0, 1) := by decide +kernel
theorem dX6_preferMove_69 : decode cX6_preferMove 69 = .ok (.getfield 13, 3) := by decide +kernel
theorem dX6_preferMove_72 : decode cX6_preferMove 72 = .ok (.bipush 105, 2) := by decide +kernel
theorem dX6_preferMove_74 : decode cX6_preferMove 74 = .ok (.iload 4, 2) := by decide +kernel
theorem dX6_preferMove_76 : decode cX6_preferMove 76 = .ok (.iadd, 1) := by decide +kernel
theorem dX6_preferMove_77 : decode cX6_preferMove 77 = .ok (.aload_n 0, 1) := by decide +kernel
theorem dX6_preferMove_78 : decode cX6_preferMove 78 = .ok (.getfield 13, 3) := by decide +kernel
theorem dX6_preferMove_81 : decode cX6_preferMove 81 = .ok (.bipush 105, 2) := by decide +kernel
theorem dX6_preferMove_83 : decode cX6_preferMove 83 = .ok (.iload 4, 2) := by decide +kernel
theorem dX6_preferMove_85 : decode cX6_preferMove 85 = .ok (.iadd, 1) := by decide +kernel
theorem dX6_preferMove_86 : decode cX6_preferMove 86 = .ok (.iconst 1, 1) := by decide +kernel
theorem dX6_preferMove_87 : decode cX6_preferMove 87 = .ok (.isub, 1) := by decide +kernel
theorem dX6_preferMove_88 : decode cX6_preferMove 88 = .ok (.iaload, 1) := by decide +kernel
theorem dX6_preferMove_89 : decode cX6_preferMove 89 = .ok (.iastore, 1) := by decide +kernel
theorem dX6_preferMove_90 : decode cX6_preferMove 90 = .ok (.iinc 4 (-1), 3) := by decide +kernel
theorem dX6_preferMove_93 : decode cX6_preferMove 93 = .ok (.goto (-52), 3) := by decide +kernel
theorem dX6_preferMove_96 : decode cX6_preferMove 96 = .ok (.aload_n 0, 1) := by decide +kernel
theorem dX6_preferMove_97 : decode cX6_preferMove 97 = .ok (.getfield 13, 3) := by decide +kernel
theorem dX6_preferMove_100 : decode cX6_preferMove 100 = .ok (.bipush 44, 2) := by decide +kernel
theorem dX6_preferMove_102 : decode cX6_preferMove 102 = .ok (.iload_n 2, 1) := by decide +kernel
theorem dX6_preferMove_103 : decode cX6_preferMove 103 = .ok (.iastore, 1) := by decide +kernel
theorem dX6_preferMove_104 : decode cX6_preferMove 104 = .ok (.aload_n 0, 1) := by decide +kernel
theorem dX6_preferMove_105 : decode cX6_preferMove 105 = .ok (.getfield 13, 3) := by decide +kernel
theorem dX6_preferMove_108 : decode cX6_preferMove 108 = .ok (.bipush 105, 2) := by decide +kernel
theorem dX6_preferMove_110 : decode cX6_preferMove 110 = .ok (.iload_n 3, 1) := by decide +kernel
theorem dX6_preferMove_111 : decode cX6_preferMove 111 = .ok (.iastore, 1) := by decide +kernel
theorem dX6_preferMove_112 : decode cX6_preferMove 112 = .ok (.aload_n 0, 1) := by decide +kernel
theorem dX6_preferMove_113 : decode cX6_preferMove 113 = .ok (.iload_n 2, 1) := by decide +kernel
theorem dX6_preferMove_114 : decode cX6_preferMove 114 = .ok (.invokevirtual 203, 3) := by decide +kernel
theorem dX6_preferMove_117 : decode cX6_preferMove 117 = .ok (.ireturn, 1) := by decide +kernel
theorem dX6_exchange_0 : decode cX6_exchange 0 = .ok (.aload_n 0, 1) := by decide +kernel
theorem dX6_exchange_1 : decode cX6_exchange 1 = .ok (.invokevirtual 221, 3) := by decide +kernel
theorem dX6_exchange_4 : decode cX6_exchange 4 = .ok (.bipush 9, 2) := by decide +kernel
theorem dX6_exchange_6 : decode cX6_exchange 6 = .ok (.if_icmp .ne 9, 3) := by decide +kernel
theorem dX6_exchange_9 : decode cX6_exchange 9 = .ok (.aload_n 0, 1) := by decide +kernel
theorem dX6_exchange_10 : decode cX6_exchange 10 = .ok (.iconst 1, 1) := by decide +kernel
theorem dX6_exchange_11 : decode cX6_exchange 11 = .ok (.invokevirtual 197, 3) := by decide +kernel
theorem dX6_exchange_14 : decode cX6_exchange 14 = .ok (.ireturn, 1) := by decide +kernel
theorem dX6_exchange_15 : decode cX6_exchange 15 = .ok (.aload_n 0, 1) := by decide +kernel
theorem dX6_exchange_16 : decode cX6_exchange 16 = .ok (.invokevirtual 270, 3) := by decide +kernel
theorem dX6_exchange_19 : decode cX6_exchange 19 = .ok (.iconst 0, 1) := by decide +kernel
theorem dX6_exchange_20 : decode cX6_exchange 20 = .ok (.istore_n 1, 1) := by decide +kernel
theorem dX6_exchange_21 : decode cX6_exchange 21 = .ok (.iload_n 1, 1) := by decide +kernel
theorem dX6_exchange_22 : decode cX6_exchange 22 = .ok (.aload_n 0, 1) := by decide +kernel
theorem dX6_exchange_23 : decode cX6_exchange 23 = .ok (.getfield 13, 3) := by decide +kernel
theorem dX6_exchange_26 : decode cX6_exchange 26 = .ok (.iconst 0, 1) := by decide +kernel
theorem dX6_exchange_27 : decode cX6_exchange 27 = .ok (.iaload, 1) := by decide +kernel
theorem dX6_exchange_28 : decode cX6_exchange 28 = .ok (.if_icmp .ge 40, 3) := by decide +kernel
theorem dX6_exchange_31 : decode cX6_exchange 31 = .ok (.aload_n 0, 1) := by decide +kernel
theorem dX6_exchange_32 : decode cX6_exchange 32 = .ok (.getfield 13, 3) := by decide +kernel
theorem dX6_exchange_35 : decode cX6_exchange 35 = .ok (.iconst 4, 1) := by decide +kernel
theorem dX6_exchange_36 : decode cX6_exchange 36 = .ok (.iload_n 1, 1) := by decide +kernel
theorem dX6_exchange_37 : decode cX6_exchange 37 = .ok (.iadd, 1) := by decide +kernel
theorem dX6_exchange_38 : decode cX6_exchange 38 = .ok (.iconst 1, 1) := by decide +kernel
theorem dX6_exchange_39 : decode cX6_exchange 39 = .ok (.aload_n 0, 1) := by decide +kernel
theorem dX6_exchange_40 : decode cX6_exchange 40 = .ok (.getfield 13, 3) := by decide +kernel
theorem dX6_exchange_43 : decode cX6_exchange 43 = .ok (.iconst 4, 1) := by decide +kernel
theorem dX6_exchange_44 : decode cX6_exchange 44 = .ok (.iload_n 1, 1) := by decide +kernel
theorem dX6_exchange_45 : decode cX6_exchange 45 = .ok (.iadd, 1) := by decide +kernel
theorem dX6_exchange_46 : decode cX6_exchange 46 = .ok (.iaload, 1) := by decide +kernel
theorem dX6_exchange_47 : decode cX6_exchange 47 = .ok (.isub, 1) := by decide +kernel
theorem dX6_exchange_48 : decode cX6_exchange 48 = .ok (.iastore, 1) := by decide +kernel
theorem dX6_exchange_49 : decode cX6_exchange 49 = .ok (.aload_n 0, 1) := by decide +kernel
theorem dX6_exchange_50 : decode cX6_exchange 50 = .ok (.getfield 13, 3) := by decide +kernel
theorem dX6_exchange_53 : decode cX6_exchange 53 = .ok (.bipush 24, 2) := by decide +kernel
theorem dX6_exchange_55 : decode cX6_exchange 55 = .ok (.iload_n 1, 1) := by decide +kernel
theorem dX6_exchange_56 : decode cX6_exchange 56 = .ok (.iadd, 1) := by decide +kernel
theorem dX6_exchange_57 : decode cX6_exchange 57 = .ok (.dup2, 1) := by decide +kernel
theorem dX6_exchange_58 : decode cX6_exchange 58 = .ok (.iaload, 1) := by decide +kernel
theorem dX6_exchange_59 : decode cX6_exchange 59 = .ok (.iconst 1, 1) := by decide +kernel
theorem dX6_exchange_60 : decode cX6_exchange 60 = .ok (.iadd, 1) := by decide +kernel
theorem dX6_exchange_61 : decode cX6_exchange 61 = .ok (.iastore, 1) := by decide +kernel
theorem dX6_exchange_62 : decode cX6_exchange 62 = .ok (.iinc 1 1, 3) := by decide +kernel
theorem dX6_exchange_65 : decode cX6_exchange 65 = .ok (.goto (-44), 3) := by decide +kernel
theorem dX6_exchange_68 : decode cX6_exchange 68 = .ok (.aload_n 0, 1) := by decide +kernel
theorem dX6_exchange_69 : decode cX6_exchange 69 = .ok (.iconst 0, 1) := by decide +kernel
theorem dX6_exchange_70 : decode cX6_exchange 70 = .ok (.invokevirtual 61, 3) := by decide +kernel
theorem dX6_exchange_73 : decode cX6_exchange 73 = .ok (.aload_n 0, 1) := by decide +kernel
theorem dX6_exchange_74 : decode cX6_exchange 74 = .ok (.aload_n 0, 1) := by decide +kernel
theorem dX6_exchange_75 : decode cX6_exchange 75 = .ok (.invokevirtual 221, 3) := by decide +kernel
theorem dX6_exchange_78 : decode cX6_exchange 78 = .ok (.invokevirtual 203, 3) := by decide +kernel
theorem dX6_exchange_81 : decode cX6_exchange 81 = .ok (.ireturn, 1) := by decide +kernel
theorem dX6_lay_0 : decode cX6_lay 0 = .ok (.aload_n 0, 1) := by decide +kernel
theorem dX6_lay_1 : decode cX6_lay 1 = .ok (.iload_n 1, 1) := by decide +kernel
theorem dX6_lay_2 : decode cX6_lay 2 = .ok (.invokevirtual 173, 3) := by decide +kernel
theorem dX6_lay_5 : decode cX6_lay 5 = .ok (.ifCond .ne 9, 3) := by decide +kernel
theorem dX6_lay_8 : decode cX6_lay 8 = .ok (.aload_n 0, 1) := by decide +kernel
theorem dX6_lay_9 : decode cX6_lay 9 = .ok (.iconst 1, 1) := by decide +kernel
theorem dX6_lay_10 : decode cX6_lay 10 = .ok (.invokevirtual 197, 3) := by decide +kernel
theorem dX6_lay_13 : decode cX6_lay 13 = .ok (.ireturn, 1) := by decide +kernel
theorem dX6_lay_14 : decode cX6_lay 14 = .ok (.aload_n 0, 1) := by decide +kernel
theorem dX6_lay_15 : decode cX6_lay 15 = .ok (.invokevirtual 270, 3) := by decide +kernel
theorem dX6_lay_18 : decode cX6_lay 18 = .ok (.aload_n 0, 1) := by decide +kernel
theorem dX6_lay_19 : decode cX6_lay 19 = .ok (.iload_n 1, 1) := by decide +kernel
theorem dX6_lay_20 : decode cX6_lay 20 = .ok (.invokevirtual 61, 3) := by decide +kernel
theorem dX6_lay_23 : decode cX6_lay 23 = .ok (.aload_n 0, 1) := by decide +kernel
theorem dX6_lay_24 : decode cX6_lay 24 = .ok (.aload_n 0, 1) := by decide +kernel
theorem dX6_lay_25 : decode cX6_lay 25 = .ok (.iload_n 1, 1) := by decide +kernel
theorem dX6_lay_26 : decode cX6_lay 26 = .ok (.invokevirtual 227, 3) := by decide +kernel
theorem dX6_lay_29 : decode cX6_lay 29 = .ok (.invokevirtual 203, 3) := by decide +kernel
theorem dX6_lay_32 : decode cX6_lay 32 = .ok (.ireturn, 1) := by decide +kernel
theorem dX6_goes_0 : decode cX6_goes 0 = .ok (.aload_n 0, 1) := by decide +kernel
theorem dX6_goes_1 : decode cX6_goes 1 = .ok (.getfield 13, 3) := by decide +kernel
theorem dX6_goes_4 : decode cX6_goes 4 = .ok (.iconst 3, 1) := by decide +kernel
theorem dX6_goes_5 : decode cX6_goes 5 = .ok (.dup2, 1) := by decide +kernel
theorem dX6_goes_6 : decode cX6_goes 6 = .ok (.iaload, 1) := by decide +kernel
theorem dX6_goes_7 : decode cX6_goes 7 = .ok (.iconst 1, 1) := by decide +kernel
theorem dX6_goes_8 : decode cX6_goes 8 = .ok (.iadd, 1) := by decide +kernel
theorem dX6_goes_9 : decode cX6_goes 9 = .ok (.iastore, 1) := by decide +kernel
theorem dX6_goes_10 : decode cX6_goes 10 = .ok (.aload_n 0, 1) := by decide +kernel
theorem dX6_goes_11 : decode cX6_goes 11 = .ok (.aload_n 0, 1) := by decide +kernel
theorem dX6_goes_12 : decode cX6_goes 12 = .ok (.getfield 13, 3) := by decide +kernel
theorem dX6_goes_15 : decode cX6_goes 15 = .ok (.bipush 105, 2) := by decide +kernel
theorem dX6_goes_17 : decode cX6_goes 17 = .ok (.iload_n 1, 1) := by decide +kernel
theorem dX6_goes_18 : decode cX6_goes 18 = .ok (.iadd, 1) := by decide +kernel
theorem dX6_goes_19 : decode cX6_goes 19 = .ok (.iaload, 1) := by decide +kernel
theorem dX6_goes_20 : decode cX6_goes 20 = .ok (.invokevirtual 72, 3) := by decide +kernel
theorem dX6_goes_23 : decode cX6_goes 23 = .ok (.return_, 1) := by decide +kernel
theorem dX6_go_0 : decode cX6_go 0 = .ok (.aload_n 0, 1) := by decide +kernel
theorem dX6_go_1 : decode cX6_go 1 = .ok (.iload_n 1, 1) := by decide +kernel
theorem dX6_go_2 : decode cX6_go 2 = .ok (.invokevirtual 230, 3) := by decide +kernel
theorem dX6_go_5 : decode cX6_go 5 = .ok (.ifCond .ne 9, 3) := by decide +kernel
theorem dX6_go_8 : decode cX6_go 8 = .ok (.aload_n 0, 1) := by decide +kernel
theorem dX6_go_9 : decode cX6_go 9 = .ok (.iconst 1, 1) := by decide +kernel
theorem dX6_go_10 : decode cX6_go 10 = .ok (.invokevirtual 197, 3) := by decide +kernel
theorem dX6_go_13 : decode cX6_go 13 = .ok (.ireturn, 1) := by decide +kernel
theorem dX6_go_14 : decode cX6_go 14 = .ok (.aload_n 0, 1) := by decide +kernel
theorem dX6_go_15 : decode cX6_go 15 = .ok (.getfield 13, 3) := by decide +kernel
theorem dX6_go_18 : decode cX6_go 18 = .ok (.bipush 44, 2) := by decide +kernel
theorem dX6_go_20 : decode cX6_go 20 = .ok (.iload_n 1, 1) := by decide +kernel
theorem dX6_go_21 : decode cX6_go 21 = .ok (.iadd, 1) := by decide +kernel
theorem dX6_go_22 : decode cX6_go 22 = .ok (.iaload, 1) := by decide +kernel
theorem dX6_go_23 : decode cX6_go 23 = .ok (.aload_n 0, 1) := by decide +kernel
theorem dX6_go_24 : decode cX6_go 24 = .ok (.getfield 13, 3) := by decide +kernel
theorem dX6_go_27 : decode cX6_go 27 = .ok (.iconst 2, 1) := by decide +kernel
theorem dX6_go_28 : decode cX6_go 28 = .ok (.iaload, 1) := by decide +kernel
theorem dX6_go_29 : decode cX6_go 29 = .ok (.if_icmp .eq 9, 3) := by decide +kernel
theorem dX6_go_32 : decode cX6_go 32 = .ok (.aload_n 0, 1) := by decide +kernel
theorem dX6_go_33 : decode cX6_go 33 = .ok (.iconst 2, 1) := by decide +kernel
theorem dX6_go_34 : decode cX6_go 34 = .ok (.invokevirtual 197, 3) := by decide +kernel
theorem dX6_go_37 : decode cX6_go 37 = .ok (.ireturn, 1) := by decide +kernel
theorem dX6_go_38 : decode cX6_go 38 = .ok (.aload_n 0, 1) := by decide +kernel
theorem dX6_go_39 : decode cX6_go 39 = .ok (.invokevirtual 270, 3) := by decide +kernel
theorem dX6_go_42 : decode cX6_go 42 = .ok (.aload_n 0, 1) := by decide +kernel
theorem dX6_go_43 : decode cX6_go 43 = .ok (.iload_n 1, 1) := by decide +kernel
theorem dX6_go_44 : decode cX6_go 44 = .ok (.invokevirtual 279, 3) := by decide +kernel
theorem dX6_go_47 : decode cX6_go 47 = .ok (.aload_n 0, 1) := by decide +kernel
theorem dX6_go_48 : decode cX6_go 48 = .ok (.aload_n 0, 1) := by decide +kernel
theorem dX6_go_49 : decode cX6_go 49 = .ok (.getfield 13, 3) := by decide +kernel
theorem dX6_go_52 : decode cX6_go 52 = .ok (.bipush 24, 2) := by decide +kernel
theorem dX6_go_54 : decode cX6_go 54 = .ok (.aload_n 0, 1) := by decide +kernel
theorem dX6_go_55 : decode cX6_go 55 = .ok (.getfield 13, 3) := by decide +kernel
theorem dX6_go_58 : decode cX6_go 58 = .ok (.iconst 2, 1) := by decide +kernel
theorem dX6_go_59 : decode cX6_go 59 = .ok (.iaload, 1) := by decide +kernel
theorem dX6_go_60 : decode cX6_go 60 = .ok (.iadd, 1) := by decide +kernel
theorem dX6_go_61 : decode cX6_go 61 = .ok (.iaload, 1) := by decide +kernel
theorem dX6_go_62 : decode cX6_go 62 = .ok (.invokevirtual 203, 3) := by decide +kernel
theorem dX6_go_65 : decode cX6_go 65 = .ok (.ireturn, 1) := by decide +kernel
theorem dX6_run_0 : decode cX6_run 0 = .ok (.iload_n 1, 1) := by decide +kernel
theorem dX6_run_1 : decode cX6_run 1 = .ok (.iconst 1, 1) := by decide +kernel
theorem dX6_run_2 : decode cX6_run 2 = .ok (.bipush 100, 2) := by decide +kernel
theorem dX6_run_4 : decode cX6_run 4 = .ok (.invokestatic 68, 3) := by decide +kernel
theorem dX6_run_7 : decode cX6_run 7 = .ok (.ifCond .ne 9, 3) := by decide +kernel
theorem dX6_run_10 : decode cX6_run 10 = .ok (.aload_n 0, 1) := by decide +kernel
theorem dX6_run_11 : decode cX6_run 11 = .ok (.iconst 1, 1) := by decide +kernel
theorem dX6_run_12 : decode cX6_run 12 = .ok (.invokevirtual 197, 3) := by decide +kernel
theorem dX6_run_15 : decode cX6_run 15 = .ok (.ireturn, 1) := by decide +kernel
theorem dX6_run_16 : decode cX6_run 16 = .ok (.aload_n 0, 1) := by decide +kernel
theorem dX6_run_17 : decode cX6_run 17 = .ok (.invokevirtual 270, 3) := by decide +kernel
theorem dX6_run_20 : decode cX6_run 20 = .ok (.aload_n 0, 1) := by decide +kernel
theorem dX6_run_21 : decode cX6_run 21 = .ok (.invokevirtual 249, 3) := by decide +kernel
theorem dX6_run_24 : decode cX6_run 24 = .ok (.iconst 0, 1) := by decide +kernel
theorem dX6_run_25 : decode cX6_run 25 = .ok (.istore_n 2, 1) := by decide +kernel
theorem dX6_run_26 : decode cX6_run 26 = .ok (.iload_n 2, 1) := by decide +kernel
theorem dX6_run_27 : decode cX6_run 27 = .ok (.iload_n 1, 1) := by decide +kernel
theorem dX6_run_28 : decode cX6_run 28 = .ok (.if_icmp .ge 39, 3) := by decide +kernel
theorem dX6_run_31 : decode cX6_run 31 = .ok (.aload_n 0, 1) := by decide +kernel
theorem dX6_run_32 : decode cX6_run 32 = .ok (.getfield 45, 3) := by decide +kernel
theorem dX6_run_35 : decode cX6_run 35 = .ok (.aload_n 0, 1) := by decide +kernel
theorem dX6_run_36 : decode cX6_run 36 = .ok (.getfield 13, 3) := by decide +kernel
theorem dX6_run_39 : decode cX6_run 39 = .ok (.iconst 2, 1) := by decide +kernel
theorem dX6_run_40 : decode cX6_run 40 = .ok (.iaload, 1) := by decide +kernel
theorem dX6_run_41 : decode cX6_run 41 = .ok (.iaload, 1) := by decide +kernel
theorem dX6_run_42 : decode cX6_run 42 = .ok (.iconst (-1), 1) := by decide +kernel
theorem dX6_run_43 : decode cX6_run 43 = .ok (.if_icmp .eq 24, 3) := by decide +kernel
theorem dX6_run_46 : decode cX6_run 46 = .ok (.aload_n 0, 1) := by decide +kernel
theorem dX6_run_47 : decode cX6_run 47 = .ok (.aload_n 0, 1) := by decide +kernel
theorem dX6_run_48 : decode cX6_run 48 = .ok (.getfield 45, 3) := by decide +kernel
theorem dX6_run_51 : decode cX6_run 51 = .ok (.aload_n 0, 1) := by decide +kernel
theorem dX6_run_52 : decode cX6_run 52 = .ok (.getfield 13, 3) := by decide +kernel
theorem dX6_run_55 : decode cX6_run 55 = .ok (.iconst 2, 1) := by decide +kernel
theorem dX6_run_56 : decode cX6_run 56 = .ok (.iaload, 1) := by decide +kernel
theorem dX6_run_57 : decode cX6_run 57 = .ok (.iaload, 1) := by decide +kernel
theorem dX6_run_58 : decode cX6_run 58 = .ok (.invokevirtual 279, 3) := by decide +kernel
theorem dX6_run_61 : decode cX6_run 61 = .ok (.iinc 2 1, 3) := by decide +kernel
theorem dX6_run_64 : decode cX6_run 64 = .ok (.goto (-38), 3) := by decide +kernel
theorem dX6_run_67 : decode cX6_run 67 = .ok (.aload_n 0, 1) := by decide +kernel
theorem dX6_run_68 : decode cX6_run 68 = .ok (.iload_n 2, 1) := by decide +kernel
theorem dX6_run_69 : decode cX6_run 69 = .ok (.invokevirtual 203, 3) := by decide +kernel
theorem dX6_run_72 : decode cX6_run 72 = .ok (.ireturn, 1) := by decide +kernel
theorem dX6_restore_0 : decode cX6_restore 0 = .ok (.iload_n 1, 1) := by decide +kernel
theorem dX6_restore_1 : decode cX6_restore 1 = .ok (.iconst 0, 1) := by decide +kernel
theorem dX6_restore_2 : decode cX6_restore 2 = .ok (.iconst 1, 1) := by decide +kernel
theorem dX6_restore_3 : decode cX6_restore 3 = .ok (.invokestatic 68, 3) := by decide +kernel
theorem dX6_restore_6 : decode cX6_restore 6 = .ok (.ifCond .ne 9, 3) := by decide +kernel
theorem dX6_restore_9 : decode cX6_restore 9 = .ok (.aload_n 0, 1) := by decide +kernel
theorem dX6_restore_10 : decode cX6_restore 10 = .ok (.iconst 1, 1) := by decide +kernel
theorem dX6_restore_11 : decode cX6_restore 11 = .ok (.invokevirtual 197, 3) := by decide +kernel
theorem dX6_restore_14 : decode cX6_restore 14 = .ok (.ireturn, 1) := by decide +kernel
theorem dX6_restore_15 : decode cX6_restore 15 = .ok (.aload_n 0, 1) := by decide +kernel
theorem dX6_restore_16 : decode cX6_restore 16 = .ok (.getfield 218, 3) := by decide +kernel
theorem dX6_restore_19 : decode cX6_restore 19 = .ok (.iload_n 1, 1) := by decide +kernel
theorem dX6_restore_20 : decode cX6_restore 20 = .ok (.ishr, 1) := by decide +kernel
theorem dX6_restore_21 : decode cX6_restore 21 = .ok (.iconst 1, 1) := by decide +kernel
theorem dX6_restore_22 : decode cX6_restore 22 = .ok (.iand, 1) := by decide +kernel
theorem dX6_restore_23 : decode cX6_restore 23 = .ok (.ifCond .ne 9, 3) := by decide +kernel
theorem dX6_restore_26 : decode cX6_restore 26 = .ok (.aload_n 0, 1) := by decide +kernel
theorem dX6_restore_27 : decode cX6_restore 27 = .ok (.iconst 2, 1) := by decide +kernel
theorem dX6_restore_28 : decode cX6_restore 28 = .ok (.invokevirtual 197, 3) := by decide +kernel
theorem dX6_restore_31 : decode cX6_restore 31 = .ok (.ireturn, 1) := by decide +kernel
theorem dX6_restore_32 : decode cX6_restore 32 = .ok (.aload_n 0, 1) := by decide +kernel
theorem dX6_restore_33 : decode cX6_restore 33 = .ok (.invokevirtual 270, 3) := by decide +kernel
theorem dX6_restore_36 : decode cX6_restore 36 = .ok (.iconst 0, 1) := by decide +kernel
theorem dX6_restore_37 : decode cX6_restore 37 = .ok (.istore_n 2, 1) := by decide +kernel
theorem dX6_restore_38 : decode cX6_restore 38 = .ok (.iload_n 2, 1) := by decide +kernel
theorem dX6_restore_39 : decode cX6_restore 39 = .ok (.sipush 176, 3) := by decide +kernel
theorem dX6_restore_42 : decode cX6_restore 42 = .ok (.if_icmp .ge 27, 3) := by decide +kernel
theorem dX6_restore_45 : decode cX6_restore 45 = .ok (.aload_n 0, 1) := by decide +kernel
theorem dX6_restore_46 : decode cX6_restore 46 = .ok (.getfield 13, 3) := by decide +kernel
theorem dX6_restore_49 : decode cX6_restore 49 = .ok (.iload_n 2, 1) := by decide +kernel
theorem dX6_restore_50 : decode cX6_restore 50 = .ok (.aload_n 0, 1) := by decide +kernel
theorem dX6_restore_51 : decode cX6_restore 51 = .ok (.getfield 22, 3) := by decide +kernel
theorem dX6_restore_54 : decode cX6_restore 54 = .ok (.iload_n 1, 1) := by decide +kernel
theorem dX6_restore_55 : decode cX6_restore 55 = .ok (.sipush 176, 3) := by decide +kernel
theorem dX6_restore_58 : decode cX6_restore 58 = .ok (.imul, 1) := by decide +kernel
theorem dX6_restore_59 : decode cX6_restore 59 = .ok (.iload_n 2, 1) := by decide +kernel
theorem dX6_restore_60 : decode cX6_restore 60 = .ok (.iadd, 1) := by decide +kernel
theorem dX6_restore_61 : decode cX6_restore 61 = .ok (.iaload, 1) := by decide +kernel
theorem dX6_restore_62 : decode cX6_restore 62 = .ok (.iastore, 1) := by decide +kernel
theorem dX6_restore_63 : decode cX6_restore 63 = .ok (.iinc 2 1, 3) := by decide +kernel
theorem dX6_restore_66 : decode cX6_restore 66 = .ok (.goto (-28), 3) := by decide +kernel
theorem dX6_restore_69 : decode cX6_restore 69 = .ok (.aload_n 0, 1) := by decide +kernel
theorem dX6_restore_70 : decode cX6_restore 70 = .ok (.aload_n 0, 1) := by decide +kernel
theorem dX6_restore_71 : decode cX6_restore 71 = .ok (.getfield 13, 3) := by decide +kernel
theorem dX6_restore_74 : decode cX6_restore 74 = .ok (.iconst 0, 1) := by decide +kernel
theorem dX6_restore_75 : decode cX6_restore 75 = .ok (.iaload, 1) := by decide +kernel
theorem dX6_restore_76 : decode cX6_restore 76 = .ok (.invokevirtual 203, 3) := by decide +kernel
theorem dX6_restore_79 : decode cX6_restore 79 = .ok (.ireturn, 1) := by decide +kernel
theorem dX6_undo_0 : decode cX6_undo 0 = .ok (.aload_n 0, 1) := by decide +kernel
theorem dX6_undo_1 : decode cX6_undo 1 = .ok (.getfield 136, 3) := by decide +kernel
theorem dX6_undo_4 : decode cX6_undo 4 = .ok (.ifCond .ne 9, 3) := by decide +kernel
theorem dX6_undo_7 : decode cX6_undo 7 = .ok (.aload_n 0, 1) := by decide +kernel
theorem dX6_undo_8 : decode cX6_undo 8 = .ok (.iconst 1, 1) := by decide +kernel
theorem dX6_undo_9 : decode cX6_undo 9 = .ok (.invokevirtual 197, 3) := by decide +kernel
theorem dX6_undo_12 : decode cX6_undo 12 = .ok (.ireturn, 1) := by decide +kernel
theorem dX6_undo_13 : decode cX6_undo 13 = .ok (.aload_n 0, 1) := by decide +kernel
theorem dX6_undo_14 : decode cX6_undo 14 = .ok (.dup, 1) := by decide +kernel
theorem dX6_undo_15 : decode cX6_undo 15 = .ok (.getfield 136, 3) := by decide +kernel
theorem dX6_undo_18 : decode cX6_undo 18 = .ok (.iconst 1, 1) := by decide +kernel
theorem dX6_undo_19 : decode cX6_undo 19 = .ok (.isub, 1) := by decide +kernel
theorem dX6_undo_20 : decode cX6_undo 20 = .ok (.putfield 136, 3) := by decide +kernel
theorem dX6_undo_23 : decode cX6_undo 23 = .ok (.iconst 0, 1) := by decide +kernel
theorem dX6_undo_24 : decode cX6_undo 24 = .ok (.istore_n 1, 1) := by decide +kernel
theorem dX6_undo_25 : decode cX6_undo 25 = .ok (.iload_n 1, 1) := by decide +kernel
theorem dX6_undo_26 : decode cX6_undo 26 = .ok (.sipush 176, 3) := by decide +kernel
theorem dX6_undo_29 : decode cX6_undo 29 = .ok (.if_icmp .ge 30, 3) := by decide +kernel
theorem dX6_undo_32 : decode cX6_undo 32 = .ok (.aload_n 0, 1) := by decide +kernel
theorem dX6_undo_33 : decode cX6_undo 33 = .ok (.getfield 13, 3) := by decide +kernel
theorem dX6_undo_36 : decode cX6_undo 36 = .ok (.iload_n 1, 1) := by decide +kernel
theorem dX6_undo_37 : decode cX6_undo 37 = .ok (.aload_n 0, 1) := by decide +kernel
theorem dX6_undo_38 : decode cX6_undo 38 = .ok (.getfield 19, 3) := by decide +kernel
theorem dX6_undo_41 : decode cX6_undo 41 = .ok (.aload_n 0, 1) := by decide +kernel
theorem dX6_undo_42 : decode cX6_undo 42 = .ok (.getfield 136, 3) := by decide +kernel
theorem dX6_undo_45 : decode cX6_undo 45 = .ok (.sipush 176, 3) := by decide +kernel
theorem dX6_undo_48 : decode cX6_undo 48 = .ok (.imul, 1) := by decide +kernel
theorem dX6_undo_49 : decode cX6_undo 49 = .ok (.iload_n 1, 1) := by decide +kernel
theorem dX6_undo_50 : decode cX6_undo 50 = .ok (.iadd, 1) := by decide +kernel
theorem dX6_undo_51 : decode cX6_undo 51 = .ok (.iaload, 1) := by decide +kernel
theorem dX6_undo_52 : decode cX6_undo 52 = .ok (.iastore, 1) := by decide +kernel
theorem dX6_undo_53 : decode cX6_undo 53 = .ok (.iinc 1 1, 3) := by decide +kernel
theorem dX6_undo_56 : decode cX6_undo 56 = .ok (.goto (-31), 3) := by decide +kernel
theorem dX6_undo_59 : decode cX6_undo 59 = .ok (.aload_n 0, 1) := by decide +kernel
theorem dX6_undo_60 : decode cX6_undo 60 = .ok (.aload_n 0, 1) := by decide +kernel
theorem dX6_undo_61 : decode cX6_undo 61 = .ok (.getfield 136, 3) := by decide +kernel
theorem dX6_undo_64 : decode cX6_undo 64 = .ok (.invokevirtual 203, 3) := by decide +kernel
theorem dX6_undo_67 : decode cX6_undo 67 = .ok (.ireturn, 1) := by decide +kernel
theorem dX6_save_0 : decode cX6_save 0 = .ok (.iload_n 1, 1) := by decide +kernel
theorem dX6_save_1 : decode cX6_save 1 = .ok (.iconst 0, 1) := by decide +kernel
theorem dX6_save_2 : decode cX6_save 2 = .ok (.iconst 1, 1) := by decide +kernel
theorem dX6_save_3 : decode cX6_save 3 = .ok (.invokestatic 68, 3) := by decide +kernel
theorem dX6_save_6 : decode cX6_save 6 = .ok (.ifCond .ne 9, 3) := by decide +kernel
theorem dX6_save_9 : decode cX6_save 9 = .ok (.aload_n 0, 1) := by decide +kernel
theorem dX6_save_10 : decode cX6_save 10 = .ok (.iconst 1, 1) := by decide +kernel
theorem dX6_save_11 : decode cX6_save 11 = .ok (.invokevirtual 197, 3) := by decide +kernel
theorem dX6_save_14 : decode cX6_save 14 = .ok (.ireturn, 1) := by decide +kernel
theorem dX6_save_15 : decode cX6_save 15 = .ok (.iconst 0, 1) := by decide +kernel
theorem dX6_save_16 : decode cX6_save 16 = .ok (.istore_n 2, 1) := by decide +kernel
theorem dX6_save_17 : decode cX6_save 17 = .ok (.iload_n 2, 1) := by decide +kernel
theorem dX6_save_18 : decode cX6_save 18 = .ok (.sipush 176, 3) := by decide +kernel
theorem dX6_save_21 : decode cX6_save 21 = .ok (.if_icmp .ge 27, 3) := by decide +kernel
theorem dX6_save_24 : decode cX6_save 24 = .ok (.aload_n 0, 1) := by decide +kernel
theorem dX6_save_25 : decode cX6_save 25 = .ok (.getfield 22, 3) := by decide +kernel
theorem dX6_save_28 : decode cX6_save 28 = .ok (.iload_n 1, 1) := by decide +kernel
theorem dX6_save_29 : decode cX6_save 29 = .ok (.sipush 176, 3) := by decide +kernel
theorem dX6_save_32 : decode cX6_save 32 = .ok (.imul, 1) := by decide +kernel
theorem dX6_save_33 : decode cX6_save 33 = .ok (.iload_n 2, 1) := by decide +kernel
theorem dX6_save_34 : decode cX6_save 34 = .ok (.iadd, 1) := by decide +kernel
theorem dX6_save_35 : decode cX6_save 35 = .ok (.aload_n 0, 1) := by decide +kernel
theorem dX6_save_36 : decode cX6_save 36 = .ok (.getfield 13, 3) := by decide +kernel
theorem dX6_save_39 : decode cX6_save 39 = .ok (.iload_n 2, 1) := by decide +kernel
theorem dX6_save_40 : decode cX6_save 40 = .ok (.iaload, 1) := by decide +kernel
theorem dX6_save_41 : decode cX6_save 41 = .ok (.iastore, 1) := by decide +kernel
theorem dX6_save_42 : decode cX6_save 42 = .ok (.iinc 2 1, 3) := by decide +kernel
theorem dX6_save_45 : decode cX6_save 45 = .ok (.goto (-28), 3) := by decide +kernel
theorem dX6_save_48 : decode cX6_save 48 = .ok (.aload_n 0, 1) := by decide +kernel
theorem dX6_save_49 : decode cX6_save 49 = .ok (.dup, 1) := by decide +kernel
theorem dX6_save_50 : decode cX6_save 50 = .ok (.getfield 218, 3) := by decide +kernel
theorem dX6_save_53 : decode cX6_save 53 = .ok (.iconst 1, 1) := by decide +kernel
theorem dX6_save_54 : decode cX6_save 54 = .ok (.iload_n 1, 1) := by decide +kernel
theorem dX6_save_55 : decode cX6_save 55 = .ok (.ishl, 1) := by decide +kernel
theorem dX6_save_56 : decode cX6_save 56 = .ok (.ior, 1) := by decide +kernel
theorem dX6_save_57 : decode cX6_save 57 = .ok (.putfield 218, 3) := by decide +kernel
theorem dX6_save_60 : decode cX6_save 60 = .ok (.aload_n 0, 1) := by decide +kernel
theorem dX6_save_61 : decode cX6_save 61 = .ok (.aload_n 0, 1) := by decide +kernel
theorem dX6_save_62 : decode cX6_save 62 = .ok (.getfield 218, 3) := by decide +kernel
theorem dX6_save_65 : decode cX6_save 65 = .ok (.iconst 1, 1) := by decide +kernel
theorem dX6_save_66 : decode cX6_save 66 = .ok (.iand, 1) := by decide +kernel
theorem dX6_save_67 : decode cX6_save 67 = .ok (.aload_n 0, 1) := by decide +kernel
theorem dX6_save_68 : decode cX6_save 68 = .ok (.getfield 218, 3) := by decide +kernel
theorem dX6_save_71 : decode cX6_save 71 = .ok (.iconst 1, 1) := by decide +kernel
theorem dX6_save_72 : decode cX6_save 72 = .ok (.ishr, 1) := by decide +kernel
theorem dX6_save_73 : decode cX6_save 73 = .ok (.iadd, 1) := by decide +kernel
theorem dX6_save_74 : decode cX6_save 74 = .ok (.invokevirtual 203, 3) := by decide +kernel
theorem dX6_save_77 : decode cX6_save 77 = .ok (.ireturn, 1) := by decide +kernel
theorem dX6_writes_0 : decode cX6_writes 0 = .ok (.aload_n 0, 1) := by decide +kernel
theorem dX6_writes_1 : decode cX6_writes 1 = .ok (.getfield 29, 3) := by decide +kernel
theorem dX6_writes_4 : decode cX6_writes 4 = .ok (.aload_n 0, 1) := by decide +kernel
theorem dX6_writes_5 : decode cX6_writes 5 = .ok (.getfield 282, 3) := by decide +kernel
theorem dX6_writes_8 : decode cX6_writes 8 = .ok (.iload_n 1, 1) := by decide +kernel
theorem dX6_writes_9 : decode cX6_writes 9 = .ok (.i2b, 1) := by decide +kernel
theorem dX6_writes_10 : decode cX6_writes 10 = .ok (.bastore, 1) := by decide +kernel
theorem dX6_writes_11 : decode cX6_writes 11 = .ok (.aload_n 0, 1) := by decide +kernel
theorem dX6_writes_12 : decode cX6_writes 12 = .ok (.dup, 1) := by decide +kernel
theorem dX6_writes_13 : decode cX6_writes 13 = .ok (.getfield 282, 3) := by decide +kernel
theorem dX6_writes_16 : decode cX6_writes 16 = .ok (.iconst 1, 1) := by decide +kernel
theorem dX6_writes_17 : decode cX6_writes 17 = .ok (.iadd, 1) := by decide +kernel
theorem dX6_writes_18 : decode cX6_writes 18 = .ok (.putfield 282, 3) := by decide +kernel
theorem dX6_writes_21 : decode cX6_writes 21 = .ok (.return_, 1) := by decide +kernel
theorem dX6_writePlaces_0 : decode cX6_writePlaces 0 = .ok (.aload_n 0, 1) := by decide +kernel
theorem dX6_writePlaces_1 : decode cX6_writePlaces 1 = .ok (.invokevirtual 249, 3) := by decide +kernel
theorem dX6_writePlaces_4 : decode cX6_writePlaces 4 = .ok (.aload_n 0, 1) := by decide +kernel
theorem dX6_writePlaces_5 : decode cX6_writePlaces 5 = .ok (.invokevirtual 96, 3) := by decide +kernel
theorem dX6_writePlaces_8 : decode cX6_writePlaces 8 = .ok (.istore_n 1, 1) := by decide +kernel
theorem dX6_writePlaces_9 : decode cX6_writePlaces 9 = .ok (.aload_n 0, 1) := by decide +kernel
theorem dX6_writePlaces_10 : decode cX6_writePlaces 10 = .ok (.iconst 0, 1) := by decide +kernel
theorem dX6_writePlaces_11 : decode cX6_writePlaces 11 = .ok (.putfield 282, 3) := by decide +kernel
theorem dX6_writePlaces_14 : decode cX6_writePlaces 14 = .ok (.iconst 0, 1) := by decide +kernel
theorem dX6_writePlaces_15 : decode cX6_writePlaces 15 = .ok (.istore_n 2, 1) := by decide +kernel
theorem dX6_writePlaces_16 : decode cX6_writePlaces 16 = .ok (.iload_n 2, 1) := by decide +kernel
theorem dX6_writePlaces_17 : decode cX6_writePlaces 17 = .ok (.aload_n 0, 1) := by decide +kernel
theorem dX6_writePlaces_18 : decode cX6_writePlaces 18 = .ok (.getfield 13, 3) := by decide +kernel
theorem dX6_writePlaces_21 : decode cX6_writePlaces 21 = .ok (.iconst 0, 1) := by decide +kernel
theorem dX6_writePlaces_22 : decode cX6_writePlaces 22 = .ok (.iaload, 1) := by decide +kernel
theorem dX6_writePlaces_23 : decode cX6_writePlaces 23 = .ok (.if_icmp .ge 146, 3) := by decide +kernel
theorem dX6_writePlaces_26 : decode cX6_writePlaces 26 = .ok (.iload_n 2, 1) := by decide +kernel
theorem dX6_writePlaces_27 : decode cX6_writePlaces 27 = .ok (.ifCond .le 9, 3) := by decide +kernel
theorem dX6_writePlaces_30 : decode cX6_writePlaces 30 = .ok (.aload_n 0, 1) := by decide +kernel
theorem dX6_writePlaces_31 : decode cX6_writePlaces 31 = .ok (.bipush 32, 2) := by decide +kernel
theorem dX6_writePlaces_33 : decode cX6_writePlaces 33 = .ok (.invokevirtual 285, 3) := by decide +kernel
theorem dX6_writePlaces_36 : decode cX6_writePlaces 36 = .ok (.aload_n 0, 1) := by decide +kernel
theorem dX6_writePlaces_37 : decode cX6_writePlaces 37 = .ok (.getfield 13, 3) := by decide +kernel
theorem dX6_writePlaces_40 : decode cX6_writePlaces 40 = .ok (.iconst 4, 1) := by decide +kernel
theorem dX6_writePlaces_41 : decode cX6_writePlaces 41 = .ok (.iload_n 2, 1) := by decide +kernel
theorem dX6_writePlaces_42 : decode cX6_writePlaces 42 = .ok (.iadd, 1) := by decide +kernel
theorem dX6_writePlaces_43 : decode cX6_writePlaces 43 = .ok (.iaload, 1) := by decide +kernel
theorem dX6_writePlaces_44 : decode cX6_writePlaces 44 = .ok (.iconst 1, 1) := by decide +kernel
theorem dX6_writePlaces_45 : decode cX6_writePlaces 45 = .ok (.if_icmp .ne 7, 3) := by decide +kernel
theorem dX6_writePlaces_48 : decode cX6_writePlaces 48 = .ok (.iconst 1, 1) := by decide +kernel
theorem dX6_writePlaces_49 : decode cX6_writePlaces 49 = .ok (.goto 4, 3) := by decide +kernel
theorem dX6_writePlaces_52 : decode cX6_writePlaces 52 = .ok (.iconst 0, 1) := by decide +kernel
theorem dX6_writePlaces_53 : decode cX6_writePlaces 53 = .ok (.istore_n 3, 1) := by decide +kernel
theorem dX6_writePlaces_54 : decode cX6_writePlaces 54 = .ok (.aload_n 0, 1) := by decide +kernel
theorem dX6_writePlaces_55 : decode cX6_writePlaces 55 = .ok (.iload_n 3, 1) := by decide +kernel
theorem dX6_writePlaces_56 : decode cX6_writePlaces 56 = .ok (.ifCond .eq 8, 3) := by decide +kernel
theorem dX6_writePlaces_59 : decode cX6_writePlaces 59 = .ok (.bipush 111, 2) := by decide +kernel
theorem dX6_writePlaces_61 : decode cX6_writePlaces 61 = .ok (.goto 5, 3) := by decide +kernel
theorem dX6_writePlaces_64 : decode cX6_writePlaces 64 = .ok (.bipush 101, 2) := by decide +kernel
theorem dX6_writePlaces_66 : decode cX6_writePlaces 66 = .ok (.invokevirtual 285, 3) := by decide +kernel
theorem dX6_writePlaces_69 : decode cX6_writePlaces 69 = .ok (.aload_n 0, 1) := by decide +kernel
theorem dX6_writePlaces_70 : decode cX6_writePlaces 70 = .ok (.bipush 48, 2) := by decide +kernel
theorem dX6_writePlaces_72 : decode cX6_writePlaces 72 = .ok (.aload_n 0, 1) := by decide +kernel
theorem dX6_writePlaces_73 : decode cX6_writePlaces 73 = .ok (.getfield 13, 3) := by decide +kernel
theorem dX6_writePlaces_76 : decode cX6_writePlaces 76 = .ok (.bipush 24, 2) := by decide +kernel
theorem dX6_writePlaces_78 : decode cX6_writePlaces 78 = .ok (.iload_n 2, 1) := by decide +kernel
theorem dX6_writePlaces_79 : decode cX6_writePlaces 79 = .ok (.iadd, 1) := by decide +kernel
theorem dX6_writePlaces_80 : decode cX6_writePlaces 80 = .ok (.iaload, 1) := by decide +kernel
theorem dX6_writePlaces_81 : decode cX6_writePlaces 81 = .ok (.iadd, 1) := by decide +kernel
theorem dX6_writePlaces_82 : decode cX6_writePlaces 82 = .ok (.invokevirtual 285, 3) := by decide +kernel
theorem dX6_writePlaces_85 : decode cX6_writePlaces 85 = .ok (.iload_n 1, 1) := by decide +kernel
theorem dX6_writePlaces_86 : decode cX6_writePlaces 86 = .ok (.iload_n 2, 1) := by decide +kernel
theorem dX6_writePlaces_87 : decode cX6_writePlaces 87 = .ok (.invokestatic 102, 3) := by decide +kernel
theorem dX6_writePlaces_90 : decode cX6_writePlaces 90 = .ok (.iload_n 3, 1) := by decide +kernel
theorem dX6_writePlaces_91 : decode cX6_writePlaces 91 = .ok (.if_icmp .eq 9, 3) := by decide +kernel
theorem dX6_writePlaces_94 : decode cX6_writePlaces 94 = .ok (.aload_n 0, 1) := by decide +kernel
theorem dX6_writePlaces_95 : decode cX6_writePlaces 95 = .ok (.bipush 42, 2) := by decide +kernel
theorem dX6_writePlaces_97 : decode cX6_writePlaces 97 = .ok (.invokevirtual 285, 3) := by decide +kernel
theorem dX6_writePlaces_100 : decode cX6_writePlaces 100 = .ok (.aload_n 0, 1) := by decide +kernel
theorem dX6_writePlaces_101 : decode cX6_writePlaces 101 = .ok (.getfield 45, 3) := by decide +kernel
theorem dX6_writePlaces_104 : decode cX6_writePlaces 104 = .ok (.iload_n 2, 1) := by decide +kernel
theorem dX6_writePlaces_105 : decode cX6_writePlaces 105 = .ok (.iaload, 1) := by decide +kernel
theorem dX6_writePlaces_106 : decode cX6_writePlaces 106 = .ok (.iconst (-1), 1) := by decide +kernel
theorem dX6_writePlaces_107 : decode cX6_writePlaces 107 = .ok (.if_icmp .eq 56, 3) := by decide +kernel
theorem dX6_writePlaces_110 : decode cX6_writePlaces 110 = .ok (.aload_n 0, 1) := by decide +kernel
theorem dX6_writePlaces_111 : decode cX6_writePlaces 111 = .ok (.getfield 13, 3) := by decide +kernel
theorem dX6_writePlaces_114 : decode cX6_writePlaces 114 = .ok (.bipush 105, 2) := by decide +kernel
theorem dX6_writePlaces_116 : decode cX6_writePlaces 116 = .ok (.aload_n 0, 1) := by decide +kernel
theorem dX6_writePlaces_117 : decode cX6_writePlaces 117 = .ok (.getfield 45, 3) := by decide +kernel
theorem dX6_writePlaces_120 : decode cX6_writePlaces 120 = .ok (.iload_n 2, 1) := by decide +kernel
theorem dX6_writePlaces_121 : decode cX6_writePlaces 121 = .ok (.iaload, 1) := by decide +kernel
theorem dX6_writePlaces_122 : decode cX6_writePlaces 122 = .ok (.iadd, 1) := by decide +kernel
theorem dX6_writePlaces_123 : decode cX6_writePlaces 123 = .ok (.iaload, 1) := by decide +kernel
theorem dX6_writePlaces_124 : decode cX6_writePlaces 124 = .ok (.istore 4, 2) := by decide +kernel
theorem dX6_writePlaces_126 : decode cX6_writePlaces 126 = .ok (.aload_n 0, 1) := by decide +kernel
theorem dX6_writePlaces_127 : decode cX6_writePlaces 127 = .ok (.bipush 62, 2) := by decide +kernel
theorem dX6_writePlaces_129 : decode cX6_writePlaces 129 = .ok (.invokevirtual 285, 3) := by decide +kernel
theorem dX6_writePlaces_132 : decode cX6_writePlaces 132 = .ok (.iload 4, 2) := by decide +kernel
theorem dX6_writePlaces_134 : decode cX6_writePlaces 134 = .ok (.bipush 9, 2) := by decide +kernel
theorem dX6_writePlaces_136 : decode cX6_writePlaces 136 = .ok (.if_icmp .le 15, 3) := by decide +kernel
theorem dX6_writePlaces_139 : decode cX6_writePlaces 139 = .ok (.aload_n 0, 1) := by decide +kernel
theorem dX6_writePlaces_140 : decode cX6_writePlaces 140 = .ok (.bipush 48, 2) := by decide +kernel
theorem dX6_writePlaces_142 : decode cX6_writePlaces 142 = .ok (.iload 4, 2) := by decide +kernel
theorem dX6_writePlaces_144 : decode cX6_writePlaces 144 = .ok (.bipush 10, 2) := by decide +kernel
theorem dX6_writePlaces_146 : decode cX6_writePlaces 146 = .ok (.idiv, 1) := by decide +kernel
theorem dX6_writePlaces_147 : decode cX6_writePlaces 147 = .ok (.iadd, 1) := by decide +kernel
theorem dX6_writePlaces_148 : decode cX6_writePlaces 148 = .ok (.invokevirtual 285, 3) := by decide +kernel
theorem dX6_writePlaces_151 : decode cX6_writePlaces 151 = .ok (.aload_n 0, 1) := by decide +kernel
theorem dX6_writePlaces_152 : decode cX6_writePlaces 152 = .ok (.bipush 48, 2) := by decide +kernel
theorem dX6_writePlaces_154 : decode cX6_writePlaces 154 = .ok (.iload 4, 2) := by decide +kernel
theorem dX6_writePlaces_156 : decode cX6_writePlaces 156 = .ok (.bipush 10, 2) := by decide +kernel
theorem dX6_writePlaces_158 : decode cX6_writePlaces 158 = .ok (.irem, 1) := by decide +kernel
theorem dX6_writePlaces_159 : decode cX6_writePlaces 159 = .ok (.iadd, 1) := by decide +kernel
theorem dX6_writePlaces_160 : decode cX6_writePlaces 160 = .ok (.invokevirtual 285, 3) := by decide +kernel
theorem dX6_writePlaces_163 : decode cX6_writePlaces 163 = .ok (.iinc 2 1, 3) := by decide +kernel
theorem dX6_writePlaces_166 : decode cX6_writePlaces 166 = .ok (.goto (-150), 3) := by decide +kernel
theorem dX6_writePlaces_169 : decode cX6_writePlaces 169 = .ok (.aload_n 0, 1) := by decide +kernel
theorem dX6_writePlaces_170 : decode cX6_writePlaces 170 = .ok (.aload_n 0, 1) := by decide +kernel
theorem dX6_writePlaces_171 : decode cX6_writePlaces 171 = .ok (.getfield 282, 3) := by decide +kernel
theorem dX6_writePlaces_174 : decode cX6_writePlaces 174 = .ok (.invokevirtual 203, 3) := by decide +kernel
theorem dX6_writePlaces_177 : decode cX6_writePlaces 177 = .ok (.ireturn, 1) := by decide +kernel
theorem dX6_outputByte_0 : decode cX6_outputByte 0 = .ok (.iload_n 1, 1) := by decide +kernel
theorem dX6_outputByte_1 : decode cX6_outputByte 1 = .ok (.iconst 0, 1) := by decide +kernel
theorem dX6_outputByte_2 : decode cX6_outputByte 2 = .ok (.aload_n 0, 1) := by decide +kernel
theorem dX6_outputByte_3 : decode cX6_outputByte 3 = .ok (.getfield 282, 3) := by decide +kernel
theorem dX6_outputByte_6 : decode cX6_outputByte 6 = .ok (.iconst 1, 1) := by decide +kernel
theorem dX6_outputByte_7 : decode cX6_outputByte 7 = .ok (.isub, 1) := by decide +kernel
theorem dX6_outputByte_8 : decode cX6_outputByte 8 = .ok (.invokestatic 68, 3) := by decide +kernel
theorem dX6_outputByte_11 : decode cX6_outputByte 11 = .ok (.ifCond .ne 9, 3) := by decide +kernel
theorem dX6_outputByte_14 : decode cX6_outputByte 14 = .ok (.aload_n 0, 1) := by decide +kernel
theorem dX6_outputByte_15 : decode cX6_outputByte 15 = .ok (.iconst 1, 1) := by decide +kernel
theorem dX6_outputByte_16 : decode cX6_outputByte 16 = .ok (.invokevirtual 197, 3) := by decide +kernel
theorem dX6_outputByte_19 : decode cX6_outputByte 19 = .ok (.ireturn, 1) := by decide +kernel
theorem dX6_outputByte_20 : decode cX6_outputByte 20 = .ok (.aload_n 0, 1) := by decide +kernel
theorem dX6_outputByte_21 : decode cX6_outputByte 21 = .ok (.aload_n 0, 1) := by decide +kernel
theorem dX6_outputByte_22 : decode cX6_outputByte 22 = .ok (.getfield 29, 3) := by decide +kernel
theorem dX6_outputByte_25 : decode cX6_outputByte 25 = .ok (.iload_n 1, 1) := by decide +kernel
theorem dX6_outputByte_26 : decode cX6_outputByte 26 = .ok (.baload, 1) := by decide +kernel
theorem dX6_outputByte_27 : decode cX6_outputByte 27 = .ok (.invokevirtual 203, 3) := by decide +kernel
theorem dX6_outputByte_30 : decode cX6_outputByte 30 = .ok (.ireturn, 1) := by decide +kernel
