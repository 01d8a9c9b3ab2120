theorem dL_next_0 : decode cL_next 0 = .ok (.aload_n 0, 1) := by decide +kernel
theorem dL_next_1 : decode cL_next 1 = .ok (.iconst 0, 1) := by decide +kernel
theorem dL_next_2 : decode cL_next 2 = .ok (.aload_n 0, 1) := by decide +kernel
theorem dL_next_3 : decode cL_next 3 = .ok (.iconst 0, 1) := by decide +kernel
theorem dL_next_4 : decode cL_next 4 = .ok (.iaload, 1) := by decide +kernel
theorem dL_next_5 : decode cL_next 5 = .ok (.ldc 7, 2) := by decide +kernel
theorem dL_next_7 : decode cL_next 7 = .ok (.imul, 1) := by decide +kernel
theorem dL_next_8 : decode cL_next 8 = .ok (.sipush 12345, 3) := by decide +kernel
theorem dL_next_11 : decode cL_next 11 = .ok (.iadd, 1) := by decide +kernel
theorem dL_next_12 : decode cL_next 12 = .ok (.iastore, 1) := by decide +kernel
theorem dL_next_13 : decode cL_next 13 = .ok (.aload_n 0, 1) := by decide +kernel
theorem dL_next_14 : decode cL_next 14 = .ok (.iconst 0, 1) := by decide +kernel
theorem dL_next_15 : decode cL_next 15 = .ok (.dup2, 1) := by decide +kernel
theorem dL_next_16 : decode cL_next 16 = .ok (.iaload, 1) := by decide +kernel
theorem dL_next_17 : decode cL_next 17 = .ok (.aload_n 0, 1) := by decide +kernel
theorem dL_next_18 : decode cL_next 18 = .ok (.iconst 0, 1) := by decide +kernel
theorem dL_next_19 : decode cL_next 19 = .ok (.iaload, 1) := by decide +kernel
theorem dL_next_20 : decode cL_next 20 = .ok (.bipush 15, 2) := by decide +kernel
theorem dL_next_22 : decode cL_next 22 = .ok (.iushr, 1) := by decide +kernel
theorem dL_next_23 : decode cL_next 23 = .ok (.ixor, 1) := by decide +kernel
theorem dL_next_24 : decode cL_next 24 = .ok (.iastore, 1) := by decide +kernel
theorem dL_next_25 : decode cL_next 25 = .ok (.aload_n 0, 1) := by decide +kernel
theorem dL_next_26 : decode cL_next 26 = .ok (.iconst 0, 1) := by decide +kernel
theorem dL_next_27 : decode cL_next 27 = .ok (.iaload, 1) := by decide +kernel
theorem dL_next_28 : decode cL_next 28 = .ok (.bipush 9, 2) := by decide +kernel
theorem dL_next_30 : decode cL_next 30 = .ok (.iushr, 1) := by decide +kernel
theorem dL_next_31 : decode cL_next 31 = .ok (.ireturn, 1) := by decide +kernel
theorem dL_type_0 : decode cL_type 0 = .ok (.iconst 0, 1) := by decide +kernel
theorem dL_type_1 : decode cL_type 1 = .ok (.istore_n 2, 1) := by decide +kernel
theorem dL_type_2 : decode cL_type 2 = .ok (.iconst 0, 1) := by decide +kernel
theorem dL_type_3 : decode cL_type 3 = .ok (.istore_n 3, 1) := by decide +kernel
theorem dL_type_4 : decode cL_type 4 = .ok (.iload_n 3, 1) := by decide +kernel
theorem dL_type_5 : decode cL_type 5 = .ok (.aload_n 1, 1) := by decide +kernel
theorem dL_type_6 : decode cL_type 6 = .ok (.invokevirtual 8, 3) := by decide +kernel
theorem dL_type_9 : decode cL_type 9 = .ok (.if_icmp .ge 117, 3) := by decide +kernel
theorem dL_type_12 : decode cL_type 12 = .ok (.iconst 5, 1) := by decide +kernel
theorem dL_type_13 : decode cL_type 13 = .ok (.newarray .int, 2) := by decide +kernel
theorem dL_type_15 : decode cL_type 15 = .ok (.dup, 1) := by decide +kernel
theorem dL_type_16 : decode cL_type 16 = .ok (.iconst 0, 1) := by decide +kernel
theorem dL_type_17 : decode cL_type 17 = .ok (.iconst 0, 1) := by decide +kernel
theorem dL_type_18 : decode cL_type 18 = .ok (.iastore, 1) := by decide +kernel
theorem dL_type_19 : decode cL_type 19 = .ok (.dup, 1) := by decide +kernel
theorem dL_type_20 : decode cL_type 20 = .ok (.iconst 1, 1) := by decide +kernel
theorem dL_type_21 : decode cL_type 21 = .ok (.iconst 0, 1) := by decide +kernel
theorem dL_type_22 : decode cL_type 22 = .ok (.iastore, 1) := by decide +kernel
theorem dL_type_23 : decode cL_type 23 = .ok (.dup, 1) := by decide +kernel
theorem dL_type_24 : decode cL_type 24 = .ok (.iconst 2, 1) := by decide +kernel
theorem dL_type_25 : decode cL_type 25 = .ok (.iconst 0, 1) := by decide +kernel
theorem dL_type_26 : decode cL_type 26 = .ok (.iastore, 1) := by decide +kernel
theorem dL_type_27 : decode cL_type 27 = .ok (.dup, 1) := by decide +kernel
theorem dL_type_28 : decode cL_type 28 = .ok (.iconst 3, 1) := by decide +kernel
theorem dL_type_29 : decode cL_type 29 = .ok (.iconst 0, 1) := by decide +kernel
theorem dL_type_30 : decode cL_type 30 = .ok (.iastore, 1) := by decide +kernel
theorem dL_type_31 : decode cL_type 31 = .ok (.dup, 1) := by decide +kernel
theorem dL_type_32 : decode cL_type 32 = .ok (.iconst 4, 1) := by decide +kernel
theorem dL_type_33 : decode cL_type 33 = .ok (.iconst 0, 1) := by decide +kernel
theorem dL_type_34 : decode cL_type 34 = .ok (.iastore, 1) := by decide +kernel
theorem dL_type_35 : decode cL_type 35 = .ok (.astore 4, 2) := by decide +kernel
theorem dL_type_37 : decode cL_type 37 = .ok (.iconst 0, 1) := by decide +kernel
theorem dL_type_38 : decode cL_type 38 = .ok (.istore 5, 2) := by decide +kernel
theorem dL_type_40 : decode cL_type 40 = .ok (.iload 5, 2) := by decide +kernel
theorem dL_type_42 : decode cL_type 42 = .ok (.bipush 20, 2) := by decide +kernel
theorem dL_type_44 : decode cL_type 44 = .ok (.if_icmp .ge 51, 3) := by decide +kernel
theorem dL_type_47 : decode cL_type 47 = .ok (.aload 4, 2) := by decide +kernel
theorem dL_type_49 : decode cL_type 49 = .ok (.iload 5, 2) := by decide +kernel
theorem dL_type_51 : decode cL_type 51 = .ok (.iconst 4, 1) := by decide +kernel
theorem dL_type_52 : decode cL_type 52 = .ok (.idiv, 1) := by decide +kernel
theorem dL_type_53 : decode cL_type 53 = .ok (.aload 4, 2) := by decide +kernel
theorem dL_type_55 : decode cL_type 55 = .ok (.iload 5, 2) := by decide +kernel
theorem dL_type_57 : decode cL_type 57 = .ok (.iconst 4, 1) := by decide +kernel
theorem dL_type_58 : decode cL_type 58 = .ok (.idiv, 1) := by decide +kernel
theorem dL_type_59 : decode cL_type 59 = .ok (.iaload, 1) := by decide +kernel
theorem dL_type_60 : decode cL_type 60 = .ok (.bipush 8, 2) := by decide +kernel
theorem dL_type_62 : decode cL_type 62 = .ok (.ishl, 1) := by decide +kernel
theorem dL_type_63 : decode cL_type 63 = .ok (.iload_n 3, 1) := by decide +kernel
theorem dL_type_64 : decode cL_type 64 = .ok (.iload 5, 2) := by decide +kernel
theorem dL_type_66 : decode cL_type 66 = .ok (.iadd, 1) := by decide +kernel
theorem dL_type_67 : decode cL_type 67 = .ok (.aload_n 1, 1) := by decide +kernel
theorem dL_type_68 : decode cL_type 68 = .ok (.invokevirtual 8, 3) := by decide +kernel
theorem dL_type_71 : decode cL_type 71 = .ok (.if_icmp .ge 14, 3) := by decide +kernel
theorem dL_type_74 : decode cL_type 74 = .ok (.aload_n 1, 1) := by decide +kernel
theorem dL_type_75 : decode cL_type 75 = .ok (.iload_n 3, 1) := by decide +kernel
theorem dL_type_76 : decode cL_type 76 = .ok (.iload 5, 2) := by decide +kernel
theorem dL_type_78 : decode cL_type 78 = .ok (.iadd, 1) := by decide +kernel
theorem dL_type_79 : decode cL_type 79 = .ok (.invokevirtual 14, 3) := by decide +kernel
theorem dL_type_82 : decode cL_type 82 = .ok (.goto 5, 3) := by decide +kernel
theorem dL_type_85 : decode cL_type 85 = .ok (.bipush 32, 2) := by decide +kernel
theorem dL_type_87 : decode cL_type 87 = .ok (.ior, 1) := by decide +kernel
theorem dL_type_88 : decode cL_type 88 = .ok (.iastore, 1) := by decide +kernel
theorem dL_type_89 : decode cL_type 89 = .ok (.iinc 5 1, 3) := by decide +kernel
theorem dL_type_92 : decode cL_type 92 = .ok (.goto (-52), 3) := by decide +kernel
theorem dL_type_95 : decode cL_type 95 = .ok (.aload_n 0, 1) := by decide +kernel
theorem dL_type_96 : decode cL_type 96 = .ok (.aload 4, 2) := by decide +kernel
theorem dL_type_98 : decode cL_type 98 = .ok (.iconst 0, 1) := by decide +kernel
theorem dL_type_99 : decode cL_type 99 = .ok (.iaload, 1) := by decide +kernel
theorem dL_type_100 : decode cL_type 100 = .ok (.aload 4, 2) := by decide +kernel
theorem dL_type_102 : decode cL_type 102 = .ok (.iconst 1, 1) := by decide +kernel
theorem dL_type_103 : decode cL_type 103 = .ok (.iaload, 1) := by decide +kernel
theorem dL_type_104 : decode cL_type 104 = .ok (.aload 4, 2) := by decide +kernel
theorem dL_type_106 : decode cL_type 106 = .ok (.iconst 2, 1) := by decide +kernel
theorem dL_type_107 : decode cL_type 107 = .ok (.iaload, 1) := by decide +kernel
theorem dL_type_108 : decode cL_type 108 = .ok (.aload 4, 2) := by decide +kernel
theorem dL_type_110 : decode cL_type 110 = .ok (.iconst 3, 1) := by decide +kernel
theorem dL_type_111 : decode cL_type 111 = .ok (.iaload, 1) := by decide +kernel
theorem dL_type_112 : decode cL_type 112 = .ok (.aload 4, 2) := by decide +kernel
theorem dL_type_114 : decode cL_type 114 = .ok (.iconst 4, 1) := by decide +kernel
theorem dL_type_115 : decode cL_type 115 = .ok (.iaload, 1) := by decide +kernel
theorem dL_type_116 : decode cL_type 116 = .ok (.invokevirtual 18, 3) := by decide +kernel
theorem dL_type_119 : decode cL_type 119 = .ok (.istore_n 2, 1) := by decide +kernel
theorem dL_type_120 : decode cL_type 120 = .ok (.iinc 3 20, 3) := by decide +kernel
theorem dL_type_123 : decode cL_type 123 = .ok (.goto (-119), 3) := by decide +kernel
theorem dL_type_126 : decode cL_type 126 = .ok (.aload_n 1, 1) := by decide +kernel
theorem dL_type_127 : decode cL_type 127 = .ok (.invokevirtual 8, 3) := by decide +kernel
theorem dL_type_130 : decode cL_type 130 = .ok (.ireturn, 1) := by decide +kernel
theorem dL_load_0 : decode cL_load 0 = .ok (.aload_n 0, 1) := by decide +kernel
theorem dL_load_1 : decode cL_load 1 = .ok (.aload_n 1, 1) := by decide +kernel
theorem dL_load_2 : decode cL_load 2 = .ok (.invokestatic 24, 3) := by decide +kernel
theorem dL_load_5 : decode cL_load 5 = .ok (.istore_n 2, 1) := by decide +kernel
theorem dL_load_6 : decode cL_load 6 = .ok (.aload_n 0, 1) := by decide +kernel
theorem dL_load_7 : decode cL_load 7 = .ok (.iload_n 2, 1) := by decide +kernel
theorem dL_load_8 : decode cL_load 8 = .ok (.invokevirtual 30, 3) := by decide +kernel
theorem dL_load_11 : decode cL_load 11 = .ok (.ireturn, 1) := by decide +kernel
theorem dL_load_12 : decode cL_load 12 = .ok (.astore_n 3, 1) := by decide +kernel
theorem dL_load_13 : decode cL_load 13 = .ok (.bipush (-2), 2) := by decide +kernel
theorem dL_load_15 : decode cL_load 15 = .ok (.ireturn, 1) := by decide +kernel
theorem dL_load_16 : decode cL_load 16 = .ok (.astore_n 3, 1) := by decide +kernel
theorem dL_load_17 : decode cL_load 17 = .ok (.iconst (-1), 1) := by decide +kernel
theorem dL_load_18 : decode cL_load 18 = .ok (.ireturn, 1) := by decide +kernel
theorem dL_undone_0 : decode cL_undone 0 = .ok (.aload_n 0, 1) := by decide +kernel
theorem dL_undone_1 : decode cL_undone 1 = .ok (.invokevirtual 38, 3) := by decide +kernel
theorem dL_undone_4 : decode cL_undone 4 = .ok (.ireturn, 1) := by decide +kernel
theorem dL_undone_5 : decode cL_undone 5 = .ok (.astore_n 1, 1) := by decide +kernel
theorem dL_undone_6 : decode cL_undone 6 = .ok (.iconst (-1), 1) := by decide +kernel
theorem dL_undone_7 : decode cL_undone 7 = .ok (.ireturn, 1) := by decide +kernel
theorem dL_gone_0 : decode cL_gone 0 = .ok (.aload_n 0, 1) := by decide +kernel
theorem dL_gone_1 : decode cL_gone 1 = .ok (.iload_n 1, 1) := by decide +kernel
theorem dL_gone_2 : decode cL_gone 2 = .ok (.invokevirtual 41, 3) := by decide +kernel
theorem dL_gone_5 : decode cL_gone 5 = .ok (.ireturn, 1) := by decide +kernel
theorem dL_gone_6 : decode cL_gone 6 = .ok (.astore_n 2, 1) := by decide +kernel
theorem dL_gone_7 : decode cL_gone 7 = .ok (.iconst (-1), 1) := by decide +kernel
theorem dL_gone_8 : decode cL_gone 8 = .ok (.ireturn, 1) := by decide +kernel
theorem dL_gone_9 : decode cL_gone 9 = .ok (.astore_n 2, 1) := by decide +kernel
theorem dL_gone_10 : decode cL_gone 10 = .ok (.bipush (-3), 2) := by decide +kernel
theorem dL_gone_12 : decode cL_gone 12 = .ok (.ireturn, 1) := by decide +kernel
theorem dL_led_0 : decode cL_led 0 = .ok (.aload_n 0, 1) := by decide +kernel
theorem dL_led_1 : decode cL_led 1 = .ok (.iload_n 1, 1) := by decide +kernel
theorem dL_led_2 : decode cL_led 2 = .ok (.iload_n 2, 1) := by decide +kernel
theorem dL_led_3 : decode cL_led 3 = .ok (.invokevirtual 46, 3) := by decide +kernel
theorem dL_led_6 : decode cL_led 6 = .ok (.ireturn, 1) := by decide +kernel
theorem dL_led_7 : decode cL_led 7 = .ok (.astore_n 3, 1) := by decide +kernel
theorem dL_led_8 : decode cL_led 8 = .ok (.iconst (-1), 1) := by decide +kernel
theorem dL_led_9 : decode cL_led 9 = .ok (.ireturn, 1) := by decide +kernel
theorem dL_led_10 : decode cL_led 10 = .ok (.astore_n 3, 1) := by decide +kernel
theorem dL_led_11 : decode cL_led 11 = .ok (.bipush (-2), 2) := by decide +kernel
theorem dL_led_13 : decode cL_led 13 = .ok (.ireturn, 1) := by decide +kernel
theorem dL_led_14 : decode cL_led 14 = .ok (.astore_n 3, 1) := by decide +kernel
theorem dL_led_15 : decode cL_led 15 = .ok (.bipush (-3), 2) := by decide +kernel
theorem dL_led_17 : decode cL_led 17 = .ok (.ireturn, 1) := by decide +kernel
theorem dL_game_0 : decode cL_game 0 = .ok (.new 50, 3) := by decide +kernel
theorem dL_game_3 : decode cL_game 3 = .ok (.dup, 1) := by decide +kernel
theorem dL_game_4 : decode cL_game 4 = .ok (.ldc 52, 2) := by decide +kernel
theorem dL_game_6 : decode cL_game 6 = .ok (.invokespecial 54, 3) := by decide +kernel
theorem dL_game_9 : decode cL_game 9 = .ok (.astore_n 3, 1) := by decide +kernel
theorem dL_game_10 : decode cL_game 10 = .ok (.iconst 0, 1) := by decide +kernel
theorem dL_game_11 : decode cL_game 11 = .ok (.istore 4, 2) := by decide +kernel
theorem dL_game_13 : decode cL_game 13 = .ok (.iload 4, 2) := by decide +kernel
theorem dL_game_15 : decode cL_game 15 = .ok (.iload_n 0, 1) := by decide +kernel
theorem dL_game_16 : decode cL_game 16 = .ok (.if_icmp .ge 39, 3) := by decide +kernel
theorem dL_game_19 : decode cL_game 19 = .ok (.aload_n 3, 1) := by decide +kernel
theorem dL_game_20 : decode cL_game 20 = .ok (.aload_n 2, 1) := by decide +kernel
theorem dL_game_21 : decode cL_game 21 = .ok (.invokestatic 57, 3) := by decide +kernel
theorem dL_game_24 : decode cL_game 24 = .ok (.iconst 2, 1) := by decide +kernel
theorem dL_game_25 : decode cL_game 25 = .ok (.irem, 1) := by decide +kernel
theorem dL_game_26 : decode cL_game 26 = .ok (.ifCond .ne 8, 3) := by decide +kernel
theorem dL_game_29 : decode cL_game 29 = .ok (.ldc 61, 2) := by decide +kernel
theorem dL_game_31 : decode cL_game 31 = .ok (.goto 5, 3) := by decide +kernel
theorem dL_game_34 : decode cL_game 34 = .ok (.ldc 63, 2) := by decide +kernel
theorem dL_game_36 : decode cL_game 36 = .ok (.invokevirtual 65, 3) := by decide +kernel
theorem dL_game_39 : decode cL_game 39 = .ok (.aload_n 2, 1) := by decide +kernel
theorem dL_game_40 : decode cL_game 40 = .ok (.invokestatic 57, 3) := by decide +kernel
theorem dL_game_43 : decode cL_game 43 = .ok (.iload_n 1, 1) := by decide +kernel
theorem dL_game_44 : decode cL_game 44 = .ok (.irem, 1) := by decide +kernel
theorem dL_game_45 : decode cL_game 45 = .ok (.invokevirtual 69, 3) := by decide +kernel
theorem dL_game_48 : decode cL_game 48 = .ok (.pop, 1) := by decide +kernel
theorem dL_game_49 : decode cL_game 49 = .ok (.iinc 4 1, 3) := by decide +kernel
theorem dL_game_52 : decode cL_game 52 = .ok (.goto (-39), 3) := by decide +kernel
theorem dL_game_55 : decode cL_game 55 = .ok (.iconst 0, 1) := by decide +kernel
theorem dL_game_56 : decode cL_game 56 = .ok (.istore 4, 2) := by decide +kernel
theorem dL_game_58 : decode cL_game 58 = .ok (.iload 4, 2) := by decide +kernel
theorem dL_game_60 : decode cL_game 60 = .ok (.iload_n 0, 1) := by decide +kernel
theorem dL_game_61 : decode cL_game 61 = .ok (.if_icmp .ge 115, 3) := by decide +kernel
theorem dL_game_64 : decode cL_game 64 = .ok (.aload_n 2, 1) := by decide +kernel
theorem dL_game_65 : decode cL_game 65 = .ok (.invokestatic 57, 3) := by decide +kernel
theorem dL_game_68 : decode cL_game 68 = .ok (.iload_n 0, 1) := by decide +kernel
theorem dL_game_69 : decode cL_game 69 = .ok (.irem, 1) := by decide +kernel
theorem dL_game_70 : decode cL_game 70 = .ok (.istore 5, 2) := by decide +kernel
theorem dL_game_72 : decode cL_game 72 = .ok (.iconst 1, 1) := by decide +kernel
theorem dL_game_73 : decode cL_game 73 = .ok (.aload_n 2, 1) := by decide +kernel
theorem dL_game_74 : decode cL_game 74 = .ok (.invokestatic 57, 3) := by decide +kernel
theorem dL_game_77 : decode cL_game 77 = .ok (.iload_n 0, 1) := by decide +kernel
theorem dL_game_78 : decode cL_game 78 = .ok (.irem, 1) := by decide +kernel
theorem dL_game_79 : decode cL_game 79 = .ok (.iadd, 1) := by decide +kernel
theorem dL_game_80 : decode cL_game 80 = .ok (.istore 6, 2) := by decide +kernel
theorem dL_game_82 : decode cL_game 82 = .ok (.iconst 0, 1) := by decide +kernel
theorem dL_game_83 : decode cL_game 83 = .ok (.istore 7, 2) := by decide +kernel
theorem dL_game_85 : decode cL_game 85 = .ok (.iload 7, 2) := by decide +kernel
theorem dL_game_87 : decode cL_game 87 = .ok (.iconst 3, 1) := by decide +kernel
theorem dL_game_88 : decode cL_game 88 = .ok (.if_icmp .ge 82, 3) := by decide +kernel
theorem dL_game_91 : decode cL_game 91 = .ok (.aload_n 2, 1) := by decide +kernel
theorem dL_game_92 : decode cL_game 92 = .ok (.invokestatic 57, 3) := by decide +kernel
theorem dL_game_95 : decode cL_game 95 = .ok (.iconst 4, 1) := by decide +kernel
theorem dL_game_96 : decode cL_game 96 = .ok (.irem, 1) := by decide +kernel
theorem dL_game_97 : decode cL_game 97 = .ok (.ifCond .le 67, 3) := by decide +kernel
theorem dL_game_100 : decode cL_game 100 = .ok (.iload 7, 2) := by decide +kernel
theorem dL_game_102 : decode cL_game 102 = .ok (.iload 6, 2) := by decide +kernel
theorem dL_game_104 : decode cL_game 104 = .ok (.imul, 1) := by decide +kernel
theorem dL_game_105 : decode cL_game 105 = .ok (.iload_n 0, 1) := by decide +kernel
theorem dL_game_106 : decode cL_game 106 = .ok (.irem, 1) := by decide +kernel
theorem dL_game_107 : decode cL_game 107 = .ok (.ifCond .ne 8, 3) := by decide +kernel
theorem dL_game_110 : decode cL_game 110 = .ok (.iload 7, 2) := by decide +kernel
theorem dL_game_112 : decode cL_game 112 = .ok (.ifCond .ne 52, 3) := by decide +kernel
theorem dL_game_115 : decode cL_game 115 = .ok (.iload 7, 2) := by decide +kernel
theorem dL_game_117 : decode cL_game 117 = .ok (.iconst 2, 1) := by decide +kernel
theorem dL_game_118 : decode cL_game 118 = .ok (.if_icmp .lt 16, 3) := by decide +kernel
theorem dL_game_121 : decode cL_game 121 = .ok (.iconst 2, 1) := by decide +kernel
theorem dL_game_122 : decode cL_game 122 = .ok (.iload 6, 2) := by decide +kernel
theorem dL_game_124 : decode cL_game 124 = .ok (.imul, 1) := by decide +kernel
theorem dL_game_125 : decode cL_game 125 = .ok (.iload_n 0, 1) := by decide +kernel
theorem dL_game_126 : decode cL_game 126 = .ok (.irem, 1) := by decide +kernel
theorem dL_game_127 : decode cL_game 127 = .ok (.iload 6, 2) := by decide +kernel
theorem dL_game_129 : decode cL_game 129 = .ok (.iload_n 0, 1) := by decide +kernel
theorem dL_game_130 : decode cL_game 130 = .ok (.irem, 1) := by decide +kernel
theorem dL_game_131 : decode cL_game 131 = .ok (.if_icmp .eq 33, 3) := by decide +kernel
theorem dL_game_134 : decode cL_game 134 = .ok (.aload_n 3, 1) := by decide +kernel
theorem dL_game_135 : decode cL_game 135 = .ok (.ldc 72, 2) := by decide +kernel
theorem dL_game_137 : decode cL_game 137 = .ok (.invokevirtual 65, 3) := by decide +kernel
theorem dL_game_140 : decode cL_game 140 = .ok (.iload 4, 2) := by decide +kernel
theorem dL_game_142 : decode cL_game 142 = .ok (.invokevirtual 69, 3) := by decide +kernel
theorem dL_game_145 : decode cL_game 145 = .ok (.bipush 32, 2) := by decide +kernel
theorem dL_game_147 : decode cL_game 147 = .ok (.invokevirtual 74, 3) := by decide +kernel
theorem dL_game_150 : decode cL_game 150 = .ok (.iload 5, 2) := by decide +kernel
theorem dL_game_152 : decode cL_game 152 = .ok (.iload 7, 2) := by decide +kernel
theorem dL_game_154 : decode cL_game 154 = .ok (.iload 6, 2) := by decide +kernel
theorem dL_game_156 : decode cL_game 156 = .ok (.imul, 1) := by decide +kernel
theorem dL_game_157 : decode cL_game 157 = .ok (.iadd, 1) := by decide +kernel
theorem dL_game_158 : decode cL_game 158 = .ok (.iload_n 0, 1) := by decide +kernel
theorem dL_game_159 : decode cL_game 159 = .ok (.irem, 1) := by decide +kernel
theorem dL_game_160 : decode cL_game 160 = .ok (.invokevirtual 69, 3) := by decide +kernel
theorem dL_game_163 : decode cL_game 163 = .ok (.pop, 1) := by decide +kernel
theorem dL_game_164 : decode cL_game 164 = .ok (.iinc 7 1, 3) := by decide +kernel
theorem dL_game_167 : decode cL_game 167 = .ok (.goto (-82), 3) := by decide +kernel
theorem dL_game_170 : decode cL_game 170 = .ok (.iinc 4 1, 3) := by decide +kernel
theorem dL_game_173 : decode cL_game 173 = .ok (.goto (-115), 3) := by decide +kernel
theorem dL_game_176 : decode cL_game 176 = .ok (.aload_n 3, 1) := by decide +kernel
theorem dL_game_177 : decode cL_game 177 = .ok (.ldc 77, 2) := by decide +kernel
theorem dL_game_179 : decode cL_game 179 = .ok (.invokevirtual 65, 3) := by decide +kernel
theorem dL_game_182 : decode cL_game 182 = .ok (.aload_n 2, 1) := by decide +kernel
theorem dL_game_183 : decode cL_game 183 = .ok (.invokestatic 57, 3) := by decide +kernel
theorem dL_game_186 : decode cL_game 186 = .ok (.iload_n 0, 1) := by decide +kernel
theorem dL_game_187 : decode cL_game 187 = .ok (.irem, 1) := by decide +kernel
theorem dL_game_188 : decode cL_game 188 = .ok (.invokevirtual 69, 3) := by decide +kernel
theorem dL_game_191 : decode cL_game 191 = .ok (.invokevirtual 79, 3) := by decide +kernel
theorem dL_game_194 : decode cL_game 194 = .ok (.areturn, 1) := by decide +kernel
theorem dL_refusesSet_0 : decode cL_refusesSet 0 = .ok (.aload_n 0, 1) := by decide +kernel
theorem dL_refusesSet_1 : decode cL_refusesSet 1 = .ok (.iload_n 1, 1) := by decide +kernel
theorem dL_refusesSet_2 : decode cL_refusesSet 2 = .ok (.iload_n 2, 1) := by decide +kernel
theorem dL_refusesSet_3 : decode cL_refusesSet 3 = .ok (.invokevirtual 83, 3) := by decide +kernel
theorem dL_refusesSet_6 : decode cL_refusesSet 6 = .ok (.ifCond .ge 7, 3) := by decide +kernel
theorem dL_refusesSet_9 : decode cL_refusesSet 9 = .ok (.iconst 1, 1) := by decide +kernel
theorem dL_refusesSet_10 : decode cL_refusesSet 10 = .ok (.goto 4, 3) := by decide +kernel
theorem dL_refusesSet_13 : decode cL_refusesSet 13 = .ok (.iconst 0, 1) := by decide +kernel
theorem dL_refusesSet_14 : decode cL_refusesSet 14 = .ok (.ireturn, 1) := by decide +kernel
theorem dL_refusesSet_15 : decode cL_refusesSet 15 = .ok (.astore_n 3, 1) := by decide +kernel
theorem dL_refusesSet_16 : decode cL_refusesSet 16 = .ok (.iconst 1, 1) := by decide +kernel
theorem dL_refusesSet_17 : decode cL_refusesSet 17 = .ok (.ireturn, 1) := by decide +kernel
theorem dL_refusesCall_0 : decode cL_refusesCall 0 = .ok (.aload_n 0, 1) := by decide +kernel
theorem dL_refusesCall_1 : decode cL_refusesCall 1 = .ok (.iload_n 1, 1) := by decide +kernel
theorem dL_refusesCall_2 : decode cL_refusesCall 2 = .ok (.iload_n 2, 1) := by decide +kernel
theorem dL_refusesCall_3 : decode cL_refusesCall 3 = .ok (.invokevirtual 86, 3) := by decide +kernel
theorem dL_refusesCall_6 : decode cL_refusesCall 6 = .ok (.ifCond .ge 7, 3) := by decide +kernel
theorem dL_refusesCall_9 : decode cL_refusesCall 9 = .ok (.iconst 1, 1) := by decide +kernel
theorem dL_refusesCall_10 : decode cL_refusesCall 10 = .ok (.goto 4, 3) := by decide +kernel
theorem dL_refusesCall_13 : decode cL_refusesCall 13 = .ok (.iconst 0, 1) := by decide +kernel
theorem dL_refusesCall_14 : decode cL_refusesCall 14 = .ok (.ireturn, 1) := by decide +kernel
theorem dL_refusesCall_15 : decode cL_refusesCall 15 = .ok (.astore_n 3, 1) := by decide +kernel
theorem dL_refusesCall_16 : decode cL_refusesCall 16 = .ok (.iload_n 1, 1) := by decide +kernel
theorem dL_refusesCall_17 : decode cL_refusesCall 17 = .ok (.ifCond .ge 7, 3) := by decide +kernel
theorem dL_refusesCall_20 : decode cL_refusesCall 20 = .ok (.iconst 1, 1) := by decide +kernel
theorem dL_refusesCall_21 : decode cL_refusesCall 21 = .ok (.goto 4, 3) := by decide +kernel
theorem dL_refusesCall_24 : decode cL_refusesCall 24 = .ok (.iconst 0, 1) := by decide +kernel
theorem dL_refusesCall_25 : decode cL_refusesCall 25 = .ok (.ireturn, 1) := by decide +kernel
theorem dL_refusesCall_26 : decode cL_refusesCall 26 = .ok (.astore_n 3, 1) := by decide +kernel
theorem dL_refusesCall_27 : decode cL_refusesCall 27 = .ok (.iload_n 1, 1) := by decide +kernel
theorem dL_refusesCall_28 : decode cL_refusesCall 28 = .ok (.ifCond .lt 7, 3) := by decide +kernel
theorem dL_refusesCall_31 : decode cL_refusesCall 31 = .ok (.iconst 1, 1) := by decide +kernel
theorem dL_refusesCall_32 : decode cL_refusesCall 32 = .ok (.goto 4, 3) := by decide +kernel
theorem dL_refusesCall_35 : decode cL_refusesCall 35 = .ok (.iconst 0, 1) := by decide +kernel
theorem dL_refusesCall_36 : decode cL_refusesCall 36 = .ok (.ireturn, 1) := by decide +kernel
theorem dL_sum_0 : decode cL_sum 0 = .ok (.ldc2_w 89, 3) := by decide +kernel
theorem dL_sum_3 : decode cL_sum 3 = .ok (.aload_n 0, 1) := by decide +kernel
