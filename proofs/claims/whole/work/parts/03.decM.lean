theorem dX5_init_0 : decode cX5_init 0 = .ok (.aload_n 0, 1) := by decide +kernel
theorem dX5_init_1 : decode cX5_init 1 = .ok (.invokespecial 1, 3) := by decide +kernel
theorem dX5_init_4 : decode cX5_init 4 = .ok (.aload_n 0, 1) := by decide +kernel
theorem dX5_init_5 : decode cX5_init 5 = .ok (.bipush 8, 2) := by decide +kernel
theorem dX5_init_7 : decode cX5_init 7 = .ok (.putfield 7, 3) := by decide +kernel
theorem dX5_init_10 : decode cX5_init 10 = .ok (.aload_n 0, 1) := by decide +kernel
theorem dX5_init_11 : decode cX5_init 11 = .ok (.iconst 4, 1) := by decide +kernel
theorem dX5_init_12 : decode cX5_init 12 = .ok (.putfield 13, 3) := by decide +kernel
theorem dX5_init_15 : decode cX5_init 15 = .ok (.aload_n 0, 1) := by decide +kernel
theorem dX5_init_16 : decode cX5_init 16 = .ok (.iconst 4, 1) := by decide +kernel
theorem dX5_init_17 : decode cX5_init 17 = .ok (.newarray .int, 2) := by decide +kernel
theorem dX5_init_19 : decode cX5_init 19 = .ok (.putfield 16, 3) := by decide +kernel
theorem dX5_init_22 : decode cX5_init 22 = .ok (.aload_n 0, 1) := by decide +kernel
theorem dX5_init_23 : decode cX5_init 23 = .ok (.iconst 4, 1) := by decide +kernel
theorem dX5_init_24 : decode cX5_init 24 = .ok (.newarray .int, 2) := by decide +kernel
theorem dX5_init_26 : decode cX5_init 26 = .ok (.putfield 20, 3) := by decide +kernel
theorem dX5_init_29 : decode cX5_init 29 = .ok (.aload_n 0, 1) := by decide +kernel
theorem dX5_init_30 : decode cX5_init 30 = .ok (.iconst 4, 1) := by decide +kernel
theorem dX5_init_31 : decode cX5_init 31 = .ok (.newarray .int, 2) := by decide +kernel
theorem dX5_init_33 : decode cX5_init 33 = .ok (.putfield 23, 3) := by decide +kernel
theorem dX5_init_36 : decode cX5_init 36 = .ok (.aload_n 0, 1) := by decide +kernel
theorem dX5_init_37 : decode cX5_init 37 = .ok (.iconst 4, 1) := by decide +kernel
theorem dX5_init_38 : decode cX5_init 38 = .ok (.newarray .int, 2) := by decide +kernel
theorem dX5_init_40 : decode cX5_init 40 = .ok (.putfield 26, 3) := by decide +kernel
theorem dX5_init_43 : decode cX5_init 43 = .ok (.aload_n 0, 1) := by decide +kernel
theorem dX5_init_44 : decode cX5_init 44 = .ok (.iconst 4, 1) := by decide +kernel
theorem dX5_init_45 : decode cX5_init 45 = .ok (.newarray .int, 2) := by decide +kernel
theorem dX5_init_47 : decode cX5_init 47 = .ok (.putfield 29, 3) := by decide +kernel
theorem dX5_init_50 : decode cX5_init 50 = .ok (.aload_n 0, 1) := by decide +kernel
theorem dX5_init_51 : decode cX5_init 51 = .ok (.bipush 33, 2) := by decide +kernel
theorem dX5_init_53 : decode cX5_init 53 = .ok (.newarray .int, 2) := by decide +kernel
theorem dX5_init_55 : decode cX5_init 55 = .ok (.putfield 32, 3) := by decide +kernel
theorem dX5_init_58 : decode cX5_init 58 = .ok (.aload_n 0, 1) := by decide +kernel
theorem dX5_init_59 : decode cX5_init 59 = .ok (.sipush 429, 3) := by decide +kernel
theorem dX5_init_62 : decode cX5_init 62 = .ok (.newarray .long, 2) := by decide +kernel
theorem dX5_init_64 : decode cX5_init 64 = .ok (.putfield 35, 3) := by decide +kernel
theorem dX5_init_67 : decode cX5_init 67 = .ok (.aload_n 0, 1) := by decide +kernel
theorem dX5_init_68 : decode cX5_init 68 = .ok (.sipush 2145, 3) := by decide +kernel
theorem dX5_init_71 : decode cX5_init 71 = .ok (.newarray .long, 2) := by decide +kernel
theorem dX5_init_73 : decode cX5_init 73 = .ok (.putfield 39, 3) := by decide +kernel
theorem dX5_init_76 : decode cX5_init 76 = .ok (.aload_n 0, 1) := by decide +kernel
theorem dX5_init_77 : decode cX5_init 77 = .ok (.sipush 2145, 3) := by decide +kernel
theorem dX5_init_80 : decode cX5_init 80 = .ok (.newarray .long, 2) := by decide +kernel
theorem dX5_init_82 : decode cX5_init 82 = .ok (.putfield 42, 3) := by decide +kernel
theorem dX5_init_85 : decode cX5_init 85 = .ok (.aload_n 0, 1) := by decide +kernel
theorem dX5_init_86 : decode cX5_init 86 = .ok (.iconst 0, 1) := by decide +kernel
theorem dX5_init_87 : decode cX5_init 87 = .ok (.putfield 45, 3) := by decide +kernel
theorem dX5_init_90 : decode cX5_init 90 = .ok (.return_, 1) := by decide +kernel
theorem dX5_in_0 : decode cX5_in 0 = .ok (.iload_n 0, 1) := by decide +kernel
theorem dX5_in_1 : decode cX5_in 1 = .ok (.iload_n 1, 1) := by decide +kernel
theorem dX5_in_2 : decode cX5_in 2 = .ok (.if_icmp .lt 12, 3) := by decide +kernel
theorem dX5_in_5 : decode cX5_in 5 = .ok (.iload_n 0, 1) := by decide +kernel
theorem dX5_in_6 : decode cX5_in 6 = .ok (.iload_n 2, 1) := by decide +kernel
theorem dX5_in_7 : decode cX5_in 7 = .ok (.if_icmp .gt 7, 3) := by decide +kernel
theorem dX5_in_10 : decode cX5_in 10 = .ok (.iconst 1, 1) := by decide +kernel
theorem dX5_in_11 : decode cX5_in 11 = .ok (.goto 4, 3) := by decide +kernel
theorem dX5_in_14 : decode cX5_in 14 = .ok (.iconst 0, 1) := by decide +kernel
theorem dX5_in_15 : decode cX5_in 15 = .ok (.ireturn, 1) := by decide +kernel
set_option maxRecDepth 20000 in
theorem ggX5_set_X5_in : GoodIn wsX5_set wsX5_in := goodIn_r _ [7] (by decide +kernel) (by decide +kernel)
set_option maxRecDepth 20000 in
theorem gX5_set_X5_in : GoodIn wsX5_set (va_wsS RX5 48 yX5_in wsX5_in) := goodIn_app (goodIn_of _ (by decide +kernel)) ggX5_set_X5_in
theorem dX5_set_0 : decode cX5_set 0 = .ok (.iconst (-1), 1) := by decide +kernel
theorem dX5_set_1 : decode cX5_set 1 = .ok (.istore_n 3, 1) := by decide +kernel
theorem dX5_set_2 : decode cX5_set 2 = .ok (.iload_n 1, 1) := by decide +kernel
theorem dX5_set_3 : decode cX5_set 3 = .ok (.ifCond .ne 50, 3) := by decide +kernel
theorem dX5_set_6 : decode cX5_set 6 = .ok (.iload_n 2, 1) := by decide +kernel
theorem dX5_set_7 : decode cX5_set 7 = .ok (.iconst 2, 1) := by decide +kernel
theorem dX5_set_8 : decode cX5_set 8 = .ok (.bipush 32, 2) := by decide +kernel
theorem dX5_set_10 : decode cX5_set 10 = .ok (.invokestatic 48, 3) := by decide +kernel
theorem dX5_set_13 : decode cX5_set 13 = .ok (.ifCond .eq 40, 3) := by decide +kernel
theorem dX5_set_16 : decode cX5_set 16 = .ok (.aload_n 0, 1) := by decide +kernel
theorem dX5_set_17 : decode cX5_set 17 = .ok (.getfield 7, 3) := by decide +kernel
theorem dX5_set_20 : decode cX5_set 20 = .ok (.istore_n 3, 1) := by decide +kernel
theorem dX5_set_21 : decode cX5_set 21 = .ok (.aload_n 0, 1) := by decide +kernel
theorem dX5_set_22 : decode cX5_set 22 = .ok (.iload_n 2, 1) := by decide +kernel
theorem dX5_set_23 : decode cX5_set 23 = .ok (.putfield 7, 3) := by decide +kernel
theorem dX5_set_26 : decode cX5_set 26 = .ok (.iconst 0, 1) := by decide +kernel
theorem dX5_set_27 : decode cX5_set 27 = .ok (.istore 4, 2) := by decide +kernel
theorem dX5_set_29 : decode cX5_set 29 = .ok (.iload 4, 2) := by decide +kernel
theorem dX5_set_31 : decode cX5_set 31 = .ok (.bipush 33, 2) := by decide +kernel
theorem dX5_set_33 : decode cX5_set 33 = .ok (.if_icmp .ge 17, 3) := by decide +kernel
theorem dX5_set_36 : decode cX5_set 36 = .ok (.aload_n 0, 1) := by decide +kernel
theorem dX5_set_37 : decode cX5_set 37 = .ok (.getfield 32, 3) := by decide +kernel
theorem dX5_set_40 : decode cX5_set 40 = .ok (.iload 4, 2) := by decide +kernel
theorem dX5_set_42 : decode cX5_set 42 = .ok (.iconst 0, 1) := by decide +kernel
theorem dX5_set_43 : decode cX5_set 43 = .ok (.iastore, 1) := by decide +kernel
theorem dX5_set_44 : decode cX5_set 44 = .ok (.iinc 4 1, 3) := by decide +kernel
theorem dX5_set_47 : decode cX5_set 47 = .ok (.goto (-18), 3) := by decide +kernel
theorem dX5_set_50 : decode cX5_set 50 = .ok (.goto 28, 3) := by decide +kernel
theorem dX5_set_53 : decode cX5_set 53 = .ok (.iload_n 1, 1) := by decide +kernel
theorem dX5_set_54 : decode cX5_set 54 = .ok (.iconst 1, 1) := by decide +kernel
theorem dX5_set_55 : decode cX5_set 55 = .ok (.if_icmp .ne 23, 3) := by decide +kernel
theorem dX5_set_58 : decode cX5_set 58 = .ok (.iload_n 2, 1) := by decide +kernel
theorem dX5_set_59 : decode cX5_set 59 = .ok (.iconst 0, 1) := by decide +kernel
theorem dX5_set_60 : decode cX5_set 60 = .ok (.bipush 12, 2) := by decide +kernel
theorem dX5_set_62 : decode cX5_set 62 = .ok (.invokestatic 48, 3) := by decide +kernel
theorem dX5_set_65 : decode cX5_set 65 = .ok (.ifCond .eq 13, 3) := by decide +kernel
theorem dX5_set_68 : decode cX5_set 68 = .ok (.aload_n 0, 1) := by decide +kernel
theorem dX5_set_69 : decode cX5_set 69 = .ok (.getfield 13, 3) := by decide +kernel
theorem dX5_set_72 : decode cX5_set 72 = .ok (.istore_n 3, 1) := by decide +kernel
theorem dX5_set_73 : decode cX5_set 73 = .ok (.aload_n 0, 1) := by decide +kernel
theorem dX5_set_74 : decode cX5_set 74 = .ok (.iload_n 2, 1) := by decide +kernel
theorem dX5_set_75 : decode cX5_set 75 = .ok (.putfield 13, 3) := by decide +kernel
theorem dX5_set_78 : decode cX5_set 78 = .ok (.iload_n 3, 1) := by decide +kernel
theorem dX5_set_79 : decode cX5_set 79 = .ok (.ireturn, 1) := by decide +kernel
set_option maxRecDepth 20000 in
theorem ggX5_game_X5_in : GoodIn wsX5_game wsX5_in := goodIn_r _ [10] (by decide +kernel) (by decide +kernel)
set_option maxRecDepth 20000 in
theorem gX5_game_X5_in : GoodIn wsX5_game (va_wsS RX5 48 yX5_in wsX5_in) := goodIn_app (goodIn_of _ (by decide +kernel)) ggX5_game_X5_in
theorem dX5_game_0 : decode cX5_game 0 = .ok (.iload_n 1, 1) := by decide +kernel
theorem dX5_game_1 : decode cX5_game 1 = .ok (.iconst 0, 1) := by decide +kernel
theorem dX5_game_2 : decode cX5_game 2 = .ok (.iconst 2, 1) := by decide +kernel
theorem dX5_game_3 : decode cX5_game 3 = .ok (.invokestatic 48, 3) := by decide +kernel
theorem dX5_game_6 : decode cX5_game 6 = .ok (.ifCond .eq 58, 3) := by decide +kernel
theorem dX5_game_9 : decode cX5_game 9 = .ok (.iload_n 2, 1) := by decide +kernel
theorem dX5_game_10 : decode cX5_game 10 = .ok (.iconst 0, 1) := by decide +kernel
theorem dX5_game_11 : decode cX5_game 11 = .ok (.bipush 16, 2) := by decide +kernel
theorem dX5_game_13 : decode cX5_game 13 = .ok (.invokestatic 48, 3) := by decide +kernel
theorem dX5_game_16 : decode cX5_game 16 = .ok (.ifCond .eq 48, 3) := by decide +kernel
theorem dX5_game_19 : decode cX5_game 19 = .ok (.iload_n 1, 1) := by decide +kernel
theorem dX5_game_20 : decode cX5_game 20 = .ok (.ifCond .eq 13, 3) := by decide +kernel
theorem dX5_game_23 : decode cX5_game 23 = .ok (.iload_n 3, 1) := by decide +kernel
theorem dX5_game_24 : decode cX5_game 24 = .ok (.iconst 1, 1) := by decide +kernel
theorem dX5_game_25 : decode cX5_game 25 = .ok (.bipush 9, 2) := by decide +kernel
theorem dX5_game_27 : decode cX5_game 27 = .ok (.invokestatic 48, 3) := by decide +kernel
theorem dX5_game_30 : decode cX5_game 30 = .ok (.ifCond .eq 34, 3) := by decide +kernel
theorem dX5_game_33 : decode cX5_game 33 = .ok (.iload_n 1, 1) := by decide +kernel
theorem dX5_game_34 : decode cX5_game 34 = .ok (.iconst 2, 1) := by decide +kernel
theorem dX5_game_35 : decode cX5_game 35 = .ok (.if_icmp .lt 14, 3) := by decide +kernel
theorem dX5_game_38 : decode cX5_game 38 = .ok (.iload 4, 2) := by decide +kernel
theorem dX5_game_40 : decode cX5_game 40 = .ok (.iconst 0, 1) := by decide +kernel
theorem dX5_game_41 : decode cX5_game 41 = .ok (.bipush 10, 2) := by decide +kernel
theorem dX5_game_43 : decode cX5_game 43 = .ok (.invokestatic 48, 3) := by decide +kernel
theorem dX5_game_46 : decode cX5_game 46 = .ok (.ifCond .eq 18, 3) := by decide +kernel
theorem dX5_game_49 : decode cX5_game 49 = .ok (.iload 5, 2) := by decide +kernel
theorem dX5_game_51 : decode cX5_game 51 = .ok (.iconst 1, 1) := by decide +kernel
theorem dX5_game_52 : decode cX5_game 52 = .ok (.bipush 32, 2) := by decide +kernel
theorem dX5_game_54 : decode cX5_game 54 = .ok (.invokestatic 48, 3) := by decide +kernel
theorem dX5_game_57 : decode cX5_game 57 = .ok (.ifCond .eq 7, 3) := by decide +kernel
theorem dX5_game_60 : decode cX5_game 60 = .ok (.iconst 1, 1) := by decide +kernel
theorem dX5_game_61 : decode cX5_game 61 = .ok (.goto 4, 3) := by decide +kernel
theorem dX5_game_64 : decode cX5_game 64 = .ok (.iconst 0, 1) := by decide +kernel
theorem dX5_game_65 : decode cX5_game 65 = .ok (.istore 6, 2) := by decide +kernel
theorem dX5_game_67 : decode cX5_game 67 = .ok (.iload 6, 2) := by decide +kernel
theorem dX5_game_69 : decode cX5_game 69 = .ok (.ifCond .ne 5, 3) := by decide +kernel
theorem dX5_game_72 : decode cX5_game 72 = .ok (.iconst (-1), 1) := by decide +kernel
theorem dX5_game_73 : decode cX5_game 73 = .ok (.ireturn, 1) := by decide +kernel
theorem dX5_game_74 : decode cX5_game 74 = .ok (.aload_n 0, 1) := by decide +kernel
theorem dX5_game_75 : decode cX5_game 75 = .ok (.getfield 45, 3) := by decide +kernel
theorem dX5_game_78 : decode cX5_game 78 = .ok (.iconst 4, 1) := by decide +kernel
theorem dX5_game_79 : decode cX5_game 79 = .ok (.if_icmp .ne 6, 3) := by decide +kernel
theorem dX5_game_82 : decode cX5_game 82 = .ok (.bipush (-3), 2) := by decide +kernel
theorem dX5_game_84 : decode cX5_game 84 = .ok (.ireturn, 1) := by decide +kernel
theorem dX5_game_85 : decode cX5_game 85 = .ok (.aload_n 0, 1) := by decide +kernel
theorem dX5_game_86 : decode cX5_game 86 = .ok (.getfield 16, 3) := by decide +kernel
theorem dX5_game_89 : decode cX5_game 89 = .ok (.aload_n 0, 1) := by decide +kernel
theorem dX5_game_90 : decode cX5_game 90 = .ok (.getfield 45, 3) := by decide +kernel
theorem dX5_game_93 : decode cX5_game 93 = .ok (.iload_n 1, 1) := by decide +kernel
theorem dX5_game_94 : decode cX5_game 94 = .ok (.iastore, 1) := by decide +kernel
theorem dX5_game_95 : decode cX5_game 95 = .ok (.aload_n 0, 1) := by decide +kernel
theorem dX5_game_96 : decode cX5_game 96 = .ok (.getfield 20, 3) := by decide +kernel
theorem dX5_game_99 : decode cX5_game 99 = .ok (.aload_n 0, 1) := by decide +kernel
theorem dX5_game_100 : decode cX5_game 100 = .ok (.getfield 45, 3) := by decide +kernel
theorem dX5_game_103 : decode cX5_game 103 = .ok (.iload_n 2, 1) := by decide +kernel
theorem dX5_game_104 : decode cX5_game 104 = .ok (.iastore, 1) := by decide +kernel
theorem dX5_game_105 : decode cX5_game 105 = .ok (.aload_n 0, 1) := by decide +kernel
theorem dX5_game_106 : decode cX5_game 106 = .ok (.getfield 23, 3) := by decide +kernel
theorem dX5_game_109 : decode cX5_game 109 = .ok (.aload_n 0, 1) := by decide +kernel
theorem dX5_game_110 : decode cX5_game 110 = .ok (.getfield 45, 3) := by decide +kernel
theorem dX5_game_113 : decode cX5_game 113 = .ok (.iload_n 3, 1) := by decide +kernel
theorem dX5_game_114 : decode cX5_game 114 = .ok (.iastore, 1) := by decide +kernel
theorem dX5_game_115 : decode cX5_game 115 = .ok (.aload_n 0, 1) := by decide +kernel
theorem dX5_game_116 : decode cX5_game 116 = .ok (.getfield 26, 3) := by decide +kernel
theorem dX5_game_119 : decode cX5_game 119 = .ok (.aload_n 0, 1) := by decide +kernel
theorem dX5_game_120 : decode cX5_game 120 = .ok (.getfield 45, 3) := by decide +kernel
theorem dX5_game_123 : decode cX5_game 123 = .ok (.iload 4, 2) := by decide +kernel
theorem dX5_game_125 : decode cX5_game 125 = .ok (.iastore, 1) := by decide +kernel
theorem dX5_game_126 : decode cX5_game 126 = .ok (.aload_n 0, 1) := by decide +kernel
theorem dX5_game_127 : decode cX5_game 127 = .ok (.getfield 29, 3) := by decide +kernel
theorem dX5_game_130 : decode cX5_game 130 = .ok (.aload_n 0, 1) := by decide +kernel
theorem dX5_game_131 : decode cX5_game 131 = .ok (.getfield 45, 3) := by decide +kernel
theorem dX5_game_134 : decode cX5_game 134 = .ok (.iload 5, 2) := by decide +kernel
theorem dX5_game_136 : decode cX5_game 136 = .ok (.iastore, 1) := by decide +kernel
theorem dX5_game_137 : decode cX5_game 137 = .ok (.aload_n 0, 1) := by decide +kernel
theorem dX5_game_138 : decode cX5_game 138 = .ok (.dup, 1) := by decide +kernel
theorem dX5_game_139 : decode cX5_game 139 = .ok (.getfield 45, 3) := by decide +kernel
theorem dX5_game_142 : decode cX5_game 142 = .ok (.iconst 1, 1) := by decide +kernel
theorem dX5_game_143 : decode cX5_game 143 = .ok (.iadd, 1) := by decide +kernel
theorem dX5_game_144 : decode cX5_game 144 = .ok (.putfield 45, 3) := by decide +kernel
theorem dX5_game_147 : decode cX5_game 147 = .ok (.aload_n 0, 1) := by decide +kernel
theorem dX5_game_148 : decode cX5_game 148 = .ok (.getfield 45, 3) := by decide +kernel
theorem dX5_game_151 : decode cX5_game 151 = .ok (.iconst 1, 1) := by decide +kernel
theorem dX5_game_152 : decode cX5_game 152 = .ok (.isub, 1) := by decide +kernel
theorem dX5_game_153 : decode cX5_game 153 = .ok (.ireturn, 1) := by decide +kernel
theorem dX5_drop_0 : decode cX5_drop 0 = .ok (.aload_n 0, 1) := by decide +kernel
theorem dX5_drop_1 : decode cX5_drop 1 = .ok (.getfield 45, 3) := by decide +kernel
theorem dX5_drop_4 : decode cX5_drop 4 = .ok (.ifCond .ne 6, 3) := by decide +kernel
theorem dX5_drop_7 : decode cX5_drop 7 = .ok (.bipush (-2), 2) := by decide +kernel
theorem dX5_drop_9 : decode cX5_drop 9 = .ok (.ireturn, 1) := by decide +kernel
theorem dX5_drop_10 : decode cX5_drop 10 = .ok (.aload_n 0, 1) := by decide +kernel
theorem dX5_drop_11 : decode cX5_drop 11 = .ok (.dup, 1) := by decide +kernel
theorem dX5_drop_12 : decode cX5_drop 12 = .ok (.getfield 45, 3) := by decide +kernel
theorem dX5_drop_15 : decode cX5_drop 15 = .ok (.iconst 1, 1) := by decide +kernel
theorem dX5_drop_16 : decode cX5_drop 16 = .ok (.isub, 1) := by decide +kernel
theorem dX5_drop_17 : decode cX5_drop 17 = .ok (.putfield 45, 3) := by decide +kernel
theorem dX5_drop_20 : decode cX5_drop 20 = .ok (.aload_n 0, 1) := by decide +kernel
theorem dX5_drop_21 : decode cX5_drop 21 = .ok (.getfield 45, 3) := by decide +kernel
theorem dX5_drop_24 : decode cX5_drop 24 = .ok (.ireturn, 1) := by decide +kernel
theorem dX5_winOf_0 : decode cX5_winOf 0 = .ok (.aload_n 0, 1) := by decide +kernel
theorem dX5_winOf_1 : decode cX5_winOf 1 = .ok (.getfield 16, 3) := by decide +kernel
theorem dX5_winOf_4 : decode cX5_winOf 4 = .ok (.iload_n 1, 1) := by decide +kernel
theorem dX5_winOf_5 : decode cX5_winOf 5 = .ok (.iaload, 1) := by decide +kernel
theorem dX5_winOf_6 : decode cX5_winOf 6 = .ok (.ifCond .ne 7, 3) := by decide +kernel
theorem dX5_winOf_9 : decode cX5_winOf 9 = .ok (.iload_n 2, 1) := by decide +kernel
theorem dX5_winOf_10 : decode cX5_winOf 10 = .ok (.goto 11, 3) := by decide +kernel
theorem dX5_winOf_13 : decode cX5_winOf 13 = .ok (.iload_n 2, 1) := by decide +kernel
theorem dX5_winOf_14 : decode cX5_winOf 14 = .ok (.aload_n 0, 1) := by decide +kernel
theorem dX5_winOf_15 : decode cX5_winOf 15 = .ok (.getfield 23, 3) := by decide +kernel
theorem dX5_winOf_18 : decode cX5_winOf 18 = .ok (.iload_n 1, 1) := by decide +kernel
theorem dX5_winOf_19 : decode cX5_winOf 19 = .ok (.iaload, 1) := by decide +kernel
theorem dX5_winOf_20 : decode cX5_winOf 20 = .ok (.imul, 1) := by decide +kernel
theorem dX5_winOf_21 : decode cX5_winOf 21 = .ok (.istore_n 3, 1) := by decide +kernel
theorem dX5_winOf_22 : decode cX5_winOf 22 = .ok (.aload_n 0, 1) := by decide +kernel
theorem dX5_winOf_23 : decode cX5_winOf 23 = .ok (.getfield 16, 3) := by decide +kernel
theorem dX5_winOf_26 : decode cX5_winOf 26 = .ok (.iload_n 1, 1) := by decide +kernel
theorem dX5_winOf_27 : decode cX5_winOf 27 = .ok (.iaload, 1) := by decide +kernel
theorem dX5_winOf_28 : decode cX5_winOf 28 = .ok (.iconst 2, 1) := by decide +kernel
theorem dX5_winOf_29 : decode cX5_winOf 29 = .ok (.if_icmp .ne 19, 3) := by decide +kernel
theorem dX5_winOf_32 : decode cX5_winOf 32 = .ok (.iload_n 3, 1) := by decide +kernel
theorem dX5_winOf_33 : decode cX5_winOf 33 = .ok (.iload_n 3, 1) := by decide +kernel
theorem dX5_winOf_34 : decode cX5_winOf 34 = .ok (.aload_n 0, 1) := by decide +kernel
theorem dX5_winOf_35 : decode cX5_winOf 35 = .ok (.getfield 26, 3) := by decide +kernel
theorem dX5_winOf_38 : decode cX5_winOf 38 = .ok (.iload_n 1, 1) := by decide +kernel
theorem dX5_winOf_39 : decode cX5_winOf 39 = .ok (.iaload, 1) := by decide +kernel
theorem dX5_winOf_40 : decode cX5_winOf 40 = .ok (.imul, 1) := by decide +kernel
theorem dX5_winOf_41 : decode cX5_winOf 41 = .ok (.bipush 10, 2) := by decide +kernel
theorem dX5_winOf_43 : decode cX5_winOf 43 = .ok (.idiv, 1) := by decide +kernel
theorem dX5_winOf_44 : decode cX5_winOf 44 = .ok (.isub, 1) := by decide +kernel
theorem dX5_winOf_45 : decode cX5_winOf 45 = .ok (.goto 4, 3) := by decide +kernel
theorem dX5_winOf_48 : decode cX5_winOf 48 = .ok (.iload_n 3, 1) := by decide +kernel
theorem dX5_winOf_49 : decode cX5_winOf 49 = .ok (.ireturn, 1) := by decide +kernel
set_option maxRecDepth 20000 in
theorem ggX5_isGame_X5_in : GoodIn wsX5_isGame wsX5_in := goodIn_r _ [5] (by decide +kernel) (by decide +kernel)
set_option maxRecDepth 20000 in
theorem gX5_isGame_X5_in : GoodIn wsX5_isGame (va_wsS RX5 48 yX5_in wsX5_in) := goodIn_app (goodIn_of _ (by decide +kernel)) ggX5_isGame_X5_in
theorem dX5_isGame_0 : decode cX5_isGame 0 = .ok (.iload_n 1, 1) := by decide +kernel
theorem dX5_isGame_1 : decode cX5_isGame 1 = .ok (.iconst 0, 1) := by decide +kernel
theorem dX5_isGame_2 : decode cX5_isGame 2 = .ok (.aload_n 0, 1) := by decide +kernel
theorem dX5_isGame_3 : decode cX5_isGame 3 = .ok (.getfield 45, 3) := by decide +kernel
theorem dX5_isGame_6 : decode cX5_isGame 6 = .ok (.iconst 1, 1) := by decide +kernel
theorem dX5_isGame_7 : decode cX5_isGame 7 = .ok (.isub, 1) := by decide +kernel
theorem dX5_isGame_8 : decode cX5_isGame 8 = .ok (.invokestatic 48, 3) := by decide +kernel
theorem dX5_isGame_11 : decode cX5_isGame 11 = .ok (.ireturn, 1) := by decide +kernel
set_option maxRecDepth 20000 in
theorem ggX5_win_X5_isGame : GoodIn wsX5_win wsX5_isGame := goodIn_r _ [9, 10, 11, 12, 8, 13, 20, 21, 22, 23, 24, 25, 26, 27, 28, 29, 30, 31, 32, 33] (by decide +kernel) (by decide +kernel)
set_option maxRecDepth 20000 in
theorem gX5_win_X5_isGame : GoodIn wsX5_win (wsV RX5 52 RX5 yX5_isGame wsX5_isGame) := goodIn_app (goodIn_of _ (by decide +kernel)) ggX5_win_X5_isGame
set_option maxRecDepth 20000 in
theorem ggX5_win_X5_in : GoodIn wsX5_win wsX5_in := goodIn_r _ [13] (by decide +kernel) (by decide +kernel)
set_option maxRecDepth 20000 in
theorem gX5_win_X5_in : GoodIn wsX5_win (va_wsS RX5 48 yX5_in wsX5_in) := goodIn_app (goodIn_of _ (by decide +kernel)) ggX5_win_X5_in
set_option maxRecDepth 20000 in
theorem ggX5_win_X5_winOf : GoodIn wsX5_win wsX5_winOf := goodIn_r _ [17, 2, 18, 19, 20, 21, 22, 23, 24, 25, 26, 27, 28, 29, 30, 31, 32, 33] (by decide +kernel) (by decide +kernel)
set_option maxRecDepth 20000 in
theorem gX5_win_X5_winOf : GoodIn wsX5_win (wsV RX5 64 RX5 yX5_winOf wsX5_winOf) := goodIn_app (goodIn_of _ (by decide +kernel)) ggX5_win_X5_winOf
theorem dX5_win_0 : decode cX5_win 0 = .ok (.aload_n 0, 1) := by decide +kernel
theorem dX5_win_1 : decode cX5_win 1 = .ok (.iload_n 1, 1) := by decide +kernel
theorem dX5_win_2 : decode cX5_win 2 = .ok (.invokevirtual 52, 3) := by decide +kernel
theorem dX5_win_5 : decode cX5_win 5 = .ok (.ifCond .eq 13, 3) := by decide +kernel
theorem dX5_win_8 : decode cX5_win 8 = .ok (.iload_n 2, 1) := by decide +kernel
theorem dX5_win_9 : decode cX5_win 9 = .ok (.iconst 1, 1) := by decide +kernel
theorem dX5_win_10 : decode cX5_win 10 = .ok (.bipush 32, 2) := by decide +kernel
theorem dX5_win_12 : decode cX5_win 12 = .ok (.invokestatic 48, 3) := by decide +kernel
theorem dX5_win_15 : decode cX5_win 15 = .ok (.ifCond .ne 5, 3) := by decide +kernel
theorem dX5_win_18 : decode cX5_win 18 = .ok (.iconst (-1), 1) := by decide +kernel
theorem dX5_win_19 : decode cX5_win 19 = .ok (.ireturn, 1) := by decide +kernel
theorem dX5_win_20 : decode cX5_win 20 = .ok (.aload_n 0, 1) := by decide +kernel
theorem dX5_win_21 : decode cX5_win 21 = .ok (.dup, 1) := by decide +kernel
theorem dX5_win_22 : decode cX5_win 22 = .ok (.getfield 56, 3) := by decide +kernel
theorem dX5_win_25 : decode cX5_win 25 = .ok (.aload_n 0, 1) := by decide +kernel
theorem dX5_win_26 : decode cX5_win 26 = .ok (.getfield 16, 3) := by decide +kernel
theorem dX5_win_29 : decode cX5_win 29 = .ok (.iload_n 1, 1) := by decide +kernel
theorem dX5_win_30 : decode cX5_win 30 = .ok (.iaload, 1) := by decide +kernel
theorem dX5_win_31 : decode cX5_win 31 = .ok (.ifCond .ne 7, 3) := by decide +kernel
theorem dX5_win_34 : decode cX5_win 34 = .ok (.lconst 1, 1) := by decide +kernel
theorem dX5_win_35 : decode cX5_win 35 = .ok (.goto 22, 3) := by decide +kernel
theorem dX5_win_38 : decode cX5_win 38 = .ok (.aload_n 0, 1) := by decide +kernel
theorem dX5_win_39 : decode cX5_win 39 = .ok (.getfield 16, 3) := by decide +kernel
theorem dX5_win_42 : decode cX5_win 42 = .ok (.iload_n 1, 1) := by decide +kernel
theorem dX5_win_43 : decode cX5_win 43 = .ok (.iaload, 1) := by decide +kernel
theorem dX5_win_44 : decode cX5_win 44 = .ok (.iconst 1, 1) := by decide +kernel
theorem dX5_win_45 : decode cX5_win 45 = .ok (.if_icmp .ne 9, 3) := by decide +kernel
theorem dX5_win_48 : decode cX5_win 48 = .ok (.ldc2_w 60, 3) := by decide +kernel
theorem dX5_win_51 : decode cX5_win 51 = .ok (.goto 6, 3) := by decide +kernel
theorem dX5_win_54 : decode cX5_win 54 = .ok (.ldc2_w 62, 3) := by decide +kernel
theorem dX5_win_57 : decode cX5_win 57 = .ok (.ladd, 1) := by decide +kernel
theorem dX5_win_58 : decode cX5_win 58 = .ok (.putfield 56, 3) := by decide +kernel
theorem dX5_win_61 : decode cX5_win 61 = .ok (.aload_n 0, 1) := by decide +kernel
theorem dX5_win_62 : decode cX5_win 62 = .ok (.iload_n 1, 1) := by decide +kernel
theorem dX5_win_63 : decode cX5_win 63 = .ok (.iload_n 2, 1) := by decide +kernel
theorem dX5_win_64 : decode cX5_win 64 = .ok (.invokevirtual 64, 3) := by decide +kernel
theorem dX5_win_67 : decode cX5_win 67 = .ok (.ireturn, 1) := by decide +kernel
set_option maxRecDepth 20000 in
theorem ggX5_behind_X5_winOf : GoodIn wsX5_behind wsX5_winOf := goodIn_r _ [6, 7, 8, 9, 10, 11, 12, 13, 14, 15, 16, 17, 18, 19, 20, 21, 22, 23] (by decide +kernel) (by decide +kernel)
set_option maxRecDepth 20000 in
theorem gX5_behind_X5_winOf : GoodIn wsX5_behind (wsV RX5 64 RX5 yX5_winOf wsX5_winOf) := goodIn_app (goodIn_of _ (by decide +kernel)) ggX5_behind_X5_winOf
theorem dX5_behind_0 : decode cX5_behind 0 = .ok (.iload_n 2, 1) := by decide +kernel
theorem dX5_behind_1 : decode cX5_behind 1 = .ok (.aload_n 0, 1) := by decide +kernel
theorem dX5_behind_2 : decode cX5_behind 2 = .ok (.iload_n 1, 1) := by decide +kernel
theorem dX5_behind_3 : decode cX5_behind 3 = .ok (.iload_n 3, 1) := by decide +kernel
theorem dX5_behind_4 : decode cX5_behind 4 = .ok (.invokevirtual 64, 3) := by decide +kernel
theorem dX5_behind_7 : decode cX5_behind 7 = .ok (.iadd, 1) := by decide +kernel
theorem dX5_behind_8 : decode cX5_behind 8 = .ok (.istore 4, 2) := by decide +kernel
theorem dX5_behind_10 : decode cX5_behind 10 = .ok (.iload 4, 2) := by decide +kernel
theorem dX5_behind_12 : decode cX5_behind 12 = .ok (.aload_n 0, 1) := by decide +kernel
theorem dX5_behind_13 : decode cX5_behind 13 = .ok (.getfield 7, 3) := by decide +kernel
theorem dX5_behind_16 : decode cX5_behind 16 = .ok (.if_icmp .le 10, 3) := by decide +kernel
theorem dX5_behind_19 : decode cX5_behind 19 = .ok (.aload_n 0, 1) := by decide +kernel
theorem dX5_behind_20 : decode cX5_behind 20 = .ok (.getfield 7, 3) := by decide +kernel
theorem dX5_behind_23 : decode cX5_behind 23 = .ok (.goto 5, 3) := by decide +kernel
theorem dX5_behind_26 : decode cX5_behind 26 = .ok (.iload 4, 2) := by decide +kernel
theorem dX5_behind_28 : decode cX5_behind 28 = .ok (.ireturn, 1) := by decide +kernel
theorem dX5_mostAt_0 : decode cX5_mostAt 0 = .ok (.iload_n 2, 1) := by decide +kernel
theorem dX5_mostAt_1 : decode cX5_mostAt 1 = .ok (.aload_n 0, 1) := by decide +kernel
theorem dX5_mostAt_2 : decode cX5_mostAt 2 = .ok (.getfield 29, 3) := by decide +kernel
theorem dX5_mostAt_5 : decode cX5_mostAt 5 = .ok (.iload_n 1, 1) := by decide +kernel
theorem dX5_mostAt_6 : decode cX5_mostAt 6 = .ok (.iaload, 1) := by decide +kernel
theorem dX5_mostAt_7 : decode cX5_mostAt 7 = .ok (.if_icmp .ge 7, 3) := by decide +kernel
theorem dX5_mostAt_10 : decode cX5_mostAt 10 = .ok (.iload_n 2, 1) := by decide +kernel
theorem dX5_mostAt_11 : decode cX5_mostAt 11 = .ok (.goto 9, 3) := by decide +kernel
theorem dX5_mostAt_14 : decode cX5_mostAt 14 = .ok (.aload_n 0, 1) := by decide +kernel
theorem dX5_mostAt_15 : decode cX5_mostAt 15 = .ok (.getfield 29, 3) := by decide +kernel
theorem dX5_mostAt_18 : decode cX5_mostAt 18 = .ok (.iload_n 1, 1) := by decide +kernel
theorem dX5_mostAt_19 : decode cX5_mostAt 19 = .ok (.iaload, 1) := by decide +kernel
theorem dX5_mostAt_20 : decode cX5_mostAt 20 = .ok (.ireturn, 1) := by decide +kernel
set_option maxRecDepth 20000 in
theorem ggX5_worth_X5_behind : GoodIn wsX5_worth wsX5_behind := goodIn_r _ [7, 8, 9, 10, 11, 6, 12, 13, 14, 15, 16, 17, 18, 19, 20, 21, 22, 23, 24, 25, 26, 27, 28, 29] (by decide +kernel) (by decide +kernel)
set_option maxRecDepth 20000 in
theorem gX5_worth_X5_behind : GoodIn wsX5_worth (wsV RX5 68 RX5 yX5_behind wsX5_behind) := goodIn_app (goodIn_of _ (by decide +kernel)) ggX5_worth_X5_behind
theorem dX5_worth_0 : decode cX5_worth 0 = .ok (.aload_n 0, 1) := by decide +kernel
theorem dX5_worth_1 : decode cX5_worth 1 = .ok (.getfield 35, 3) := by decide +kernel
theorem dX5_worth_4 : decode cX5_worth 4 = .ok (.bipush 33, 2) := by decide +kernel
theorem dX5_worth_6 : decode cX5_worth 6 = .ok (.iload 4, 2) := by decide +kernel
theorem dX5_worth_8 : decode cX5_worth 8 = .ok (.iconst 1, 1) := by decide +kernel
theorem dX5_worth_9 : decode cX5_worth 9 = .ok (.isub, 1) := by decide +kernel
theorem dX5_worth_10 : decode cX5_worth 10 = .ok (.imul, 1) := by decide +kernel
theorem dX5_worth_11 : decode cX5_worth 11 = .ok (.aload_n 0, 1) := by decide +kernel
theorem dX5_worth_12 : decode cX5_worth 12 = .ok (.iload_n 1, 1) := by decide +kernel
theorem dX5_worth_13 : decode cX5_worth 13 = .ok (.iload_n 2, 1) := by decide +kernel
theorem dX5_worth_14 : decode cX5_worth 14 = .ok (.iload_n 3, 1) := by decide +kernel
theorem dX5_worth_15 : decode cX5_worth 15 = .ok (.invokevirtual 68, 3) := by decide +kernel
theorem dX5_worth_18 : decode cX5_worth 18 = .ok (.iadd, 1) := by decide +kernel
theorem dX5_worth_19 : decode cX5_worth 19 = .ok (.laload, 1) := by decide +kernel
theorem dX5_worth_20 : decode cX5_worth 20 = .ok (.lstore 5, 2) := by decide +kernel
theorem dX5_worth_22 : decode cX5_worth 22 = .ok (.aload_n 0, 1) := by decide +kernel
theorem dX5_worth_23 : decode cX5_worth 23 = .ok (.getfield 35, 3) := by decide +kernel
theorem dX5_worth_26 : decode cX5_worth 26 = .ok (.bipush 33, 2) := by decide +kernel
theorem dX5_worth_28 : decode cX5_worth 28 = .ok (.iload 4, 2) := by decide +kernel
theorem dX5_worth_30 : decode cX5_worth 30 = .ok (.iconst 1, 1) := by decide +kernel
theorem dX5_worth_31 : decode cX5_worth 31 = .ok (.isub, 1) := by decide +kernel
theorem dX5_worth_32 : decode cX5_worth 32 = .ok (.imul, 1) := by decide +kernel
theorem dX5_worth_33 : decode cX5_worth 33 = .ok (.iload_n 2, 1) := by decide +kernel
theorem dX5_worth_34 : decode cX5_worth 34 = .ok (.iadd, 1) := by decide +kernel
theorem dX5_worth_35 : decode cX5_worth 35 = .ok (.iload_n 3, 1) := by decide +kernel
theorem dX5_worth_36 : decode cX5_worth 36 = .ok (.isub, 1) := by decide +kernel
theorem dX5_worth_37 : decode cX5_worth 37 = .ok (.laload, 1) := by decide +kernel
theorem dX5_worth_38 : decode cX5_worth 38 = .ok (.lstore 7, 2) := by decide +kernel
theorem dX5_worth_40 : decode cX5_worth 40 = .ok (.aload_n 0, 1) := by decide +kernel
theorem dX5_worth_41 : decode cX5_worth 41 = .ok (.getfield 20, 3) := by decide +kernel
theorem dX5_worth_44 : decode cX5_worth 44 = .ok (.iload_n 1, 1) := by decide +kernel
theorem dX5_worth_45 : decode cX5_worth 45 = .ok (.iaload, 1) := by decide +kernel
theorem dX5_worth_46 : decode cX5_worth 46 = .ok (.i2l, 1) := by decide +kernel
theorem dX5_worth_47 : decode cX5_worth 47 = .ok (.lload 5, 2) := by decide +kernel
theorem dX5_worth_49 : decode cX5_worth 49 = .ok (.lmul, 1) := by decide +kernel
theorem dX5_worth_50 : decode cX5_worth 50 = .ok (.bipush 16, 2) := by decide +kernel
theorem dX5_worth_52 : decode cX5_worth 52 = .ok (.aload_n 0, 1) := by decide +kernel
theorem dX5_worth_53 : decode cX5_worth 53 = .ok (.getfield 20, 3) := by decide +kernel
theorem dX5_worth_56 : decode cX5_worth 56 = .ok (.iload_n 1, 1) := by decide +kernel
theorem dX5_worth_57 : decode cX5_worth 57 = .ok (.iaload, 1) := by decide +kernel
theorem dX5_worth_58 : decode cX5_worth 58 = .ok (.isub, 1) := by decide +kernel
theorem dX5_worth_59 : decode cX5_worth 59 = .ok (.i2l, 1) := by decide +kernel
theorem dX5_worth_60 : decode cX5_worth 60 = .ok (.lload 7, 2) := by decide +kernel
theorem dX5_worth_62 : decode cX5_worth 62 = .ok (.lmul, 1) := by decide +kernel
theorem dX5_worth_63 : decode cX5_worth 63 = .ok (.ladd, 1) := by decide +kernel
theorem dX5_worth_64 : decode cX5_worth 64 = .ok (.lreturn, 1) := by decide +kernel
set_option maxRecDepth 20000 in
theorem ggX5_work_X5_mostAt : GoodIn wsX5_work wsX5_mostAt := goodIn_r _ [8, 9, 26, 27, 28, 29, 30, 31, 32, 33, 34, 35, 36, 37, 38, 39] (by decide +kernel) (by decide +kernel)
set_option maxRecDepth 20000 in
theorem gX5_work_X5_mostAt : GoodIn wsX5_work (wsV RX5 74 RX5 yX5_mostAt wsX5_mostAt) := goodIn_app (goodIn_of _ (by decide +kernel)) ggX5_work_X5_mostAt
set_option maxRecDepth 20000 in
theorem ggX5_work_X5_worth : GoodIn wsX5_work wsX5_worth := goodIn_r _ [13, 2, 14, 15, 16, 17, 7, 18, 1, 19, 20, 21, 22, 23, 24, 25, 26, 27, 28, 29, 30, 31, 32, 33, 34, 35, 36, 37, 38, 39] (by decide +kernel) (by decide +kernel)
set_option maxRecDepth 20000 in
theorem gX5_work_X5_worth : GoodIn wsX5_work (wsV RX5 77 RX5 yX5_worth wsX5_worth) := goodIn_app (goodIn_of _ (by decide +kernel)) ggX5_work_X5_worth
theorem dX5_work_0 : decode cX5_work 0 = .ok (.iconst 0, 1) := by decide +kernel
theorem dX5_work_1 : decode cX5_work 1 = .ok (.istore 5, 2) := by decide +kernel
theorem dX5_work_3 : decode cX5_work 3 = .ok (.iload 5, 2) := by decide +kernel
theorem dX5_work_5 : decode cX5_work 5 = .ok (.aload_n 0, 1) := by decide +kernel
theorem dX5_work_6 : decode cX5_work 6 = .ok (.getfield 7, 3) := by decide +kernel
theorem dX5_work_9 : decode cX5_work 9 = .ok (.if_icmp .gt 40, 3) := by decide +kernel
theorem dX5_work_12 : decode cX5_work 12 = .ok (.aload_n 0, 1) := by decide +kernel
theorem dX5_work_13 : decode cX5_work 13 = .ok (.getfield 35, 3) := by decide +kernel
theorem dX5_work_16 : decode cX5_work 16 = .ok (.iload 5, 2) := by decide +kernel
theorem dX5_work_18 : decode cX5_work 18 = .ok (.iload_n 2, 1) := by decide +kernel
theorem dX5_work_19 : decode cX5_work 19 = .ok (.ifCond .eq 9, 3) := by decide +kernel
theorem dX5_work_22 : decode cX5_work 22 = .ok (.iload 5, 2) := by decide +kernel
theorem dX5_work_24 : decode cX5_work 24 = .ok (.i2l, 1) := by decide +kernel
theorem dX5_work_25 : decode cX5_work 25 = .ok (.goto 17, 3) := by decide +kernel
theorem dX5_work_28 : decode cX5_work 28 = .ok (.iload 5, 2) := by decide +kernel
theorem dX5_work_30 : decode cX5_work 30 = .ok (.aload_n 0, 1) := by decide +kernel
theorem dX5_work_31 : decode cX5_work 31 = .ok (.getfield 7, 3) := by decide +kernel
theorem dX5_work_34 : decode cX5_work 34 = .ok (.if_icmp .ne 7, 3) := by decide +kernel
theorem dX5_work_37 : decode cX5_work 37 = .ok (.lconst 1, 1) := by decide +kernel
theorem dX5_work_38 : decode cX5_work 38 = .ok (.goto 4, 3) := by decide +kernel
theorem dX5_work_41 : decode cX5_work 41 = .ok (.lconst 0, 1) := by decide +kernel
theorem dX5_work_42 : decode cX5_work 42 = .ok (.lastore, 1) := by decide +kernel
theorem dX5_work_43 : decode cX5_work 43 = .ok (.iinc 5 1, 3) := by decide +kernel
theorem dX5_work_46 : decode cX5_work 46 = .ok (.goto (-43), 3) := by decide +kernel
theorem dX5_work_49 : decode cX5_work 49 = .ok (.iconst 1, 1) := by decide +kernel
theorem dX5_work_50 : decode cX5_work 50 = .ok (.istore 5, 2) := by decide +kernel
theorem dX5_work_52 : decode cX5_work 52 = .ok (.iload 5, 2) := by decide +kernel
theorem dX5_work_54 : decode cX5_work 54 = .ok (.iload_n 1, 1) := by decide +kernel
theorem dX5_work_55 : decode cX5_work 55 = .ok (.if_icmp .gt 146, 3) := by decide +kernel
theorem dX5_work_58 : decode cX5_work 58 = .ok (.iconst 0, 1) := by decide +kernel
theorem dX5_work_59 : decode cX5_work 59 = .ok (.istore 6, 2) := by decide +kernel
theorem dX5_work_61 : decode cX5_work 61 = .ok (.iload 6, 2) := by decide +kernel
theorem dX5_work_63 : decode cX5_work 63 = .ok (.aload_n 0, 1) := by decide +kernel
theorem dX5_work_64 : decode cX5_work 64 = .ok (.getfield 7, 3) := by decide +kernel
theorem dX5_work_67 : decode cX5_work 67 = .ok (.if_icmp .gt 128, 3) := by decide +kernel
theorem dX5_work_70 : decode cX5_work 70 = .ok (.ldc2_w 72, 3) := by decide +kernel
theorem dX5_work_73 : decode cX5_work 73 = .ok (.aload_n 0, 1) := by decide +kernel
theorem dX5_work_74 : decode cX5_work 74 = .ok (.getfield 35, 3) := by decide +kernel
theorem dX5_work_77 : decode cX5_work 77 = .ok (.bipush 33, 2) := by decide +kernel
theorem dX5_work_79 : decode cX5_work 79 = .ok (.iload 5, 2) := by decide +kernel
theorem dX5_work_81 : decode cX5_work 81 = .ok (.iconst 1, 1) := by decide +kernel
theorem dX5_work_82 : decode cX5_work 82 = .ok (.isub, 1) := by decide +kernel
theorem dX5_work_83 : decode cX5_work 83 = .ok (.imul, 1) := by decide +kernel
theorem dX5_work_84 : decode cX5_work 84 = .ok (.iload 6, 2) := by decide +kernel
theorem dX5_work_86 : decode cX5_work 86 = .ok (.iadd, 1) := by decide +kernel
theorem dX5_work_87 : decode cX5_work 87 = .ok (.laload, 1) := by decide +kernel
theorem dX5_work_88 : decode cX5_work 88 = .ok (.lmul, 1) := by decide +kernel
theorem dX5_work_89 : decode cX5_work 89 = .ok (.lstore 7, 2) := by decide +kernel
theorem dX5_work_91 : decode cX5_work 91 = .ok (.iload_n 3, 1) := by decide +kernel
theorem dX5_work_92 : decode cX5_work 92 = .ok (.istore 9, 2) := by decide +kernel
theorem dX5_work_94 : decode cX5_work 94 = .ok (.iload 9, 2) := by decide +kernel
theorem dX5_work_96 : decode cX5_work 96 = .ok (.iload 4, 2) := by decide +kernel
theorem dX5_work_98 : decode cX5_work 98 = .ok (.if_icmp .gt 76, 3) := by decide +kernel
theorem dX5_work_101 : decode cX5_work 101 = .ok (.iload 6, 2) := by decide +kernel
theorem dX5_work_103 : decode cX5_work 103 = .ok (.ifCond .le 71, 3) := by decide +kernel
theorem dX5_work_106 : decode cX5_work 106 = .ok (.iload 6, 2) := by decide +kernel
theorem dX5_work_108 : decode cX5_work 108 = .ok (.aload_n 0, 1) := by decide +kernel
theorem dX5_work_109 : decode cX5_work 109 = .ok (.getfield 7, 3) := by decide +kernel
theorem dX5_work_112 : decode cX5_work 112 = .ok (.if_icmp .ge 62, 3) := by decide +kernel
theorem dX5_work_115 : decode cX5_work 115 = .ok (.iconst 1, 1) := by decide +kernel
theorem dX5_work_116 : decode cX5_work 116 = .ok (.istore 10, 2) := by decide +kernel
theorem dX5_work_118 : decode cX5_work 118 = .ok (.iload 10, 2) := by decide +kernel
theorem dX5_work_120 : decode cX5_work 120 = .ok (.aload_n 0, 1) := by decide +kernel
theorem dX5_work_121 : decode cX5_work 121 = .ok (.iload 9, 2) := by decide +kernel
theorem dX5_work_123 : decode cX5_work 123 = .ok (.iload 6, 2) := by decide +kernel
theorem dX5_work_125 : decode cX5_work 125 = .ok (.invokevirtual 74, 3) := by decide +kernel
theorem dX5_work_128 : decode cX5_work 128 = .ok (.if_icmp .gt 40, 3) := by decide +kernel
theorem dX5_work_131 : decode cX5_work 131 = .ok (.aload_n 0, 1) := by decide +kernel
theorem dX5_work_132 : decode cX5_work 132 = .ok (.iload 9, 2) := by decide +kernel
theorem dX5_work_134 : decode cX5_work 134 = .ok (.iload 6, 2) := by decide +kernel
theorem dX5_work_136 : decode cX5_work 136 = .ok (.iload 10, 2) := by decide +kernel
theorem dX5_work_138 : decode cX5_work 138 = .ok (.iload 5, 2) := by decide +kernel
theorem dX5_work_140 : decode cX5_work 140 = .ok (.invokevirtual 77, 3) := by decide +kernel
theorem dX5_work_143 : decode cX5_work 143 = .ok (.lstore 11, 2) := by decide +kernel
theorem dX5_work_145 : decode cX5_work 145 = .ok (.lload 11, 2) := by decide +kernel
theorem dX5_work_147 : decode cX5_work 147 = .ok (.lload 7, 2) := by decide +kernel
theorem dX5_work_149 : decode cX5_work 149 = .ok (.lcmp, 1) := by decide +kernel
theorem dX5_work_150 : decode cX5_work 150 = .ok (.ifCond .le 8, 3) := by decide +kernel
theorem dX5_work_153 : decode cX5_work 153 = .ok (.lload 11, 2) := by decide +kernel
theorem dX5_work_155 : decode cX5_work 155 = .ok (.goto 5, 3) := by decide +kernel
theorem dX5_work_158 : decode cX5_work 158 = .ok (.lload 7, 2) := by decide +kernel
theorem dX5_work_160 : decode cX5_work 160 = .ok (.lstore 7, 2) := by decide +kernel
theorem dX5_work_162 : decode cX5_work 162 = .ok (.iinc 10 1, 3) := by decide +kernel
theorem dX5_work_165 : decode cX5_work 165 = .ok (.goto (-47), 3) := by decide +kernel
theorem dX5_work_168 : decode cX5_work 168 = .ok (.iinc 9 1, 3) := by decide +kernel
theorem dX5_work_171 : decode cX5_work 171 = .ok (.goto (-77), 3) := by decide +kernel
theorem dX5_work_174 : decode cX5_work 174 = .ok (.aload_n 0, 1) := by decide +kernel
theorem dX5_work_175 : decode cX5_work 175 = .ok (.getfield 35, 3) := by decide +kernel
theorem dX5_work_178 : decode cX5_work 178 = .ok (.bipush 33, 2) := by decide +kernel
theorem dX5_work_180 : decode cX5_work 180 = .ok (.iload 5, 2) := by decide +kernel
theorem dX5_work_182 : decode cX5_work 182 = .ok (.imul, 1) := by decide +kernel
theorem dX5_work_183 : decode cX5_work 183 = .ok (.iload 6, 2) := by decide +kernel
theorem dX5_work_185 : decode cX5_work 185 = .ok (.iadd, 1) := by decide +kernel
theorem dX5_work_186 : decode cX5_work 186 = .ok (.lload 7, 2) := by decide +kernel
theorem dX5_work_188 : decode cX5_work 188 = .ok (.lastore, 1) := by decide +kernel
theorem dX5_work_189 : decode cX5_work 189 = .ok (.iinc 6 1, 3) := by decide +kernel
theorem dX5_work_192 : decode cX5_work 192 = .ok (.goto (-131), 3) := by decide +kernel
theorem dX5_work_195 : decode cX5_work 195 = .ok (.iinc 5 1, 3) := by decide +kernel
theorem dX5_work_198 : decode cX5_work 198 = .ok (.goto (-146), 3) := by decide +kernel
theorem dX5_work_201 : decode cX5_work 201 = .ok (.return_, 1) := by decide +kernel
set_option maxRecDepth 20000 in
theorem ggX5_isPurse_X5_in : GoodIn wsX5_isPurse wsX5_in := goodIn_r _ [5] (by decide +kernel) (by decide +kernel)
set_option maxRecDepth 20000 in
theorem gX5_isPurse_X5_in : GoodIn wsX5_isPurse (va_wsS RX5 48 yX5_in wsX5_in) := goodIn_app (goodIn_of _ (by decide +kernel)) ggX5_isPurse_X5_in
theorem dX5_isPurse_0 : decode cX5_isPurse 0 = .ok (.iload_n 1, 1) := by decide +kernel
theorem dX5_isPurse_1 : decode cX5_isPurse 1 = .ok (.iconst 0, 1) := by decide +kernel
theorem dX5_isPurse_2 : decode cX5_isPurse 2 = .ok (.aload_n 0, 1) := by decide +kernel
theorem dX5_isPurse_3 : decode cX5_isPurse 3 = .ok (.getfield 7, 3) := by decide +kernel
theorem dX5_isPurse_6 : decode cX5_isPurse 6 = .ok (.invokestatic 48, 3) := by decide +kernel
theorem dX5_isPurse_9 : decode cX5_isPurse 9 = .ok (.ireturn, 1) := by decide +kernel
set_option maxRecDepth 20000 in
theorem ggX5_best_X5_isPurse : GoodIn wsX5_best wsX5_isPurse := goodIn_r _ [10, 11, 12, 13, 9, 14, 41, 42, 43, 44, 45, 46, 47, 48, 49, 50, 51, 52, 53, 54] (by decide +kernel) (by decide +kernel)
set_option maxRecDepth 20000 in
theorem gX5_best_X5_isPurse : GoodIn wsX5_best (wsV RX5 81 RX5 yX5_isPurse wsX5_isPurse) := goodIn_app (goodIn_of _ (by decide +kernel)) ggX5_best_X5_isPurse
set_option maxRecDepth 20000 in
theorem ggX5_best_X5_in : GoodIn wsX5_best wsX5_in := goodIn_r _ [14] (by decide +kernel) (by decide +kernel)
set_option maxRecDepth 20000 in
theorem gX5_best_X5_in : GoodIn wsX5_best (va_wsS RX5 48 yX5_in wsX5_in) := goodIn_app (goodIn_of _ (by decide +kernel)) ggX5_best_X5_in
set_option maxRecDepth 20000 in
theorem ggX5_best_X5_work : GoodIn wsX5_best wsX5_work := goodIn_r _ [18, 11, 5, 19, 20, 21, 22, 9, 23, 24, 25, 26, 27, 28, 29, 30, 31, 32, 33, 34, 35, 36, 37, 38, 39, 40, 41, 42, 43, 44, 45, 46, 47, 48, 49, 50, 51, 52, 53, 54] (by decide +kernel) (by decide +kernel)
set_option maxRecDepth 20000 in
theorem gX5_best_X5_work : GoodIn wsX5_best (wsV RX5 88 RX5 yX5_work wsX5_work) := goodIn_app (goodIn_of _ (by decide +kernel)) ggX5_best_X5_work
theorem dX5_best_0 : decode cX5_best 0 = .ok (.aload_n 0, 1) := by decide +kernel
theorem dX5_best_1 : decode cX5_best 1 = .ok (.iload_n 1, 1) := by decide +kernel
theorem dX5_best_2 : decode cX5_best 2 = .ok (.invokevirtual 81, 3) := by decide +kernel
theorem dX5_best_5 : decode cX5_best 5 = .ok (.ifCond .eq 15, 3) := by decide +kernel
theorem dX5_best_8 : decode cX5_best 8 = .ok (.iload_n 2, 1) := by decide +kernel
theorem dX5_best_9 : decode cX5_best 9 = .ok (.iconst 0, 1) := by decide +kernel
theorem dX5_best_10 : decode cX5_best 10 = .ok (.aload_n 0, 1) := by decide +kernel
theorem dX5_best_11 : decode cX5_best 11 = .ok (.getfield 13, 3) := by decide +kernel
theorem dX5_best_14 : decode cX5_best 14 = .ok (.invokestatic 48, 3) := by decide +kernel
theorem dX5_best_17 : decode cX5_best 17 = .ok (.ifCond .ne 7, 3) := by decide +kernel
theorem dX5_best_20 : decode cX5_best 20 = .ok (.ldc2_w 84, 3) := by decide +kernel
theorem dX5_best_23 : decode cX5_best 23 = .ok (.lreturn, 1) := by decide +kernel
theorem dX5_best_24 : decode cX5_best 24 = .ok (.aload_n 0, 1) := by decide +kernel
theorem dX5_best_25 : decode cX5_best 25 = .ok (.getfield 45, 3) := by decide +kernel
theorem dX5_best_28 : decode cX5_best 28 = .ok (.ifCond .ne 7, 3) := by decide +kernel
theorem dX5_best_31 : decode cX5_best 31 = .ok (.ldc2_w 86, 3) := by decide +kernel
theorem dX5_best_34 : decode cX5_best 34 = .ok (.lreturn, 1) := by decide +kernel
theorem dX5_best_35 : decode cX5_best 35 = .ok (.aload_n 0, 1) := by decide +kernel
theorem dX5_best_36 : decode cX5_best 36 = .ok (.iload_n 2, 1) := by decide +kernel
theorem dX5_best_37 : decode cX5_best 37 = .ok (.iconst 0, 1) := by decide +kernel
theorem dX5_best_38 : decode cX5_best 38 = .ok (.iconst 0, 1) := by decide +kernel
theorem dX5_best_39 : decode cX5_best 39 = .ok (.aload_n 0, 1) := by decide +kernel
theorem dX5_best_40 : decode cX5_best 40 = .ok (.getfield 45, 3) := by decide +kernel
theorem dX5_best_43 : decode cX5_best 43 = .ok (.iconst 1, 1) := by decide +kernel
theorem dX5_best_44 : decode cX5_best 44 = .ok (.isub, 1) := by decide +kernel
theorem dX5_best_45 : decode cX5_best 45 = .ok (.invokevirtual 88, 3) := by decide +kernel
theorem dX5_best_48 : decode cX5_best 48 = .ok (.aload_n 0, 1) := by decide +kernel
theorem dX5_best_49 : decode cX5_best 49 = .ok (.getfield 35, 3) := by decide +kernel
theorem dX5_best_52 : decode cX5_best 52 = .ok (.bipush 33, 2) := by decide +kernel
theorem dX5_best_54 : decode cX5_best 54 = .ok (.iload_n 2, 1) := by decide +kernel
theorem dX5_best_55 : decode cX5_best 55 = .ok (.imul, 1) := by decide +kernel
theorem dX5_best_56 : decode cX5_best 56 = .ok (.iload_n 1, 1) := by decide +kernel
theorem dX5_best_57 : decode cX5_best 57 = .ok (.iadd, 1) := by decide +kernel
theorem dX5_best_58 : decode cX5_best 58 = .ok (.laload, 1) := by decide +kernel
theorem dX5_best_59 : decode cX5_best 59 = .ok (.lreturn, 1) := by decide +kernel
set_option maxRecDepth 20000 in
theorem ggX5_stakes_X5_isGame : GoodIn wsX5_stakes wsX5_isGame := goodIn_r _ [11, 4, 12, 13, 10, 14, 44, 45, 46, 47, 48, 49, 50, 51, 52, 53, 54, 55, 56, 57] (by decide +kernel) (by decide +kernel)
set_option maxRecDepth 20000 in
theorem gX5_stakes_X5_isGame : GoodIn wsX5_stakes (wsV RX5 52 RX5 yX5_isGame wsX5_isGame) := goodIn_app (goodIn_of _ (by decide +kernel)) ggX5_stakes_X5_isGame
set_option maxRecDepth 20000 in
theorem ggX5_stakes_X5_isPurse : GoodIn wsX5_stakes wsX5_isPurse := goodIn_r _ [18, 3, 12, 13, 10, 14, 44, 45, 46, 47, 48, 49, 50, 51, 52, 53, 54, 55, 56, 57] (by decide +kernel) (by decide +kernel)
set_option maxRecDepth 20000 in
theorem gX5_stakes_X5_isPurse : GoodIn wsX5_stakes (wsV RX5 81 RX5 yX5_isPurse wsX5_isPurse) := goodIn_app (goodIn_of _ (by decide +kernel)) ggX5_stakes_X5_isPurse
set_option maxRecDepth 20000 in
theorem ggX5_stakes_X5_in : GoodIn wsX5_stakes wsX5_in := goodIn_r _ [14] (by decide +kernel) (by decide +kernel)
set_option maxRecDepth 20000 in
theorem gX5_stakes_X5_in : GoodIn wsX5_stakes (va_wsS RX5 48 yX5_in wsX5_in) := goodIn_app (goodIn_of _ (by decide +kernel)) ggX5_stakes_X5_in
set_option maxRecDepth 20000 in
theorem ggX5_stakes_X5_work : GoodIn wsX5_stakes wsX5_work := goodIn_r _ [22, 3, 5, 6, 23, 24, 25, 10, 26, 27, 28, 29, 30, 31, 32, 33, 34, 35, 36, 37, 38, 39, 40, 41, 42, 43, 44, 45, 46, 47, 48, 49, 50, 51, 52, 53, 54, 55, 56, 57] (by decide +kernel) (by decide +kernel)
set_option maxRecDepth 20000 in
theorem gX5_stakes_X5_work : GoodIn wsX5_stakes (wsV RX5 88 RX5 yX5_work wsX5_work) := goodIn_app (goodIn_of _ (by decide +kernel)) ggX5_stakes_X5_work
set_option maxRecDepth 20000 in
theorem ggX5_stakes_X5_mostAt : GoodIn wsX5_stakes wsX5_mostAt := goodIn_r _ [26, 27, 44, 45, 46, 47, 48, 49, 50, 51, 52, 53, 54, 55, 56, 57] (by decide +kernel) (by decide +kernel)
set_option maxRecDepth 20000 in
theorem gX5_stakes_X5_mostAt : GoodIn wsX5_stakes (wsV RX5 74 RX5 yX5_mostAt wsX5_mostAt) := goodIn_app (goodIn_of _ (by decide +kernel)) ggX5_stakes_X5_mostAt
set_option maxRecDepth 20000 in
theorem ggX5_stakes_X5_worth : GoodIn wsX5_stakes wsX5_worth := goodIn_r _ [31, 5, 32, 33, 34, 35, 10, 36, 3, 37, 38, 39, 40, 41, 42, 43, 44, 45, 46, 47, 48, 49, 50, 51, 52, 53, 54, 55, 56, 57] (by decide +kernel) (by decide +kernel)
set_option maxRecDepth 20000 in
theorem gX5_stakes_X5_worth : GoodIn wsX5_stakes (wsV RX5 77 RX5 yX5_worth wsX5_worth) := goodIn_app (goodIn_of _ (by decide +kernel)) ggX5_stakes_X5_worth
theorem dX5_stakes_0 : decode cX5_stakes 0 = .ok (.aload_n 0, 1) := by decide +kernel
theorem dX5_stakes_1 : decode cX5_stakes 1 = .ok (.iload_n 1, 1) := by decide +kernel
theorem dX5_stakes_2 : decode cX5_stakes 2 = .ok (.invokevirtual 52, 3) := by decide +kernel
theorem dX5_stakes_5 : decode cX5_stakes 5 = .ok (.ifCond .eq 23, 3) := by decide +kernel
theorem dX5_stakes_8 : decode cX5_stakes 8 = .ok (.aload_n 0, 1) := by decide +kernel
theorem dX5_stakes_9 : decode cX5_stakes 9 = .ok (.iload_n 2, 1) := by decide +kernel
theorem dX5_stakes_10 : decode cX5_stakes 10 = .ok (.invokevirtual 81, 3) := by decide +kernel
theorem dX5_stakes_13 : decode cX5_stakes 13 = .ok (.ifCond .eq 15, 3) := by decide +kernel
theorem dX5_stakes_16 : decode cX5_stakes 16 = .ok (.iload_n 3, 1) := by decide +kernel
theorem dX5_stakes_17 : decode cX5_stakes 17 = .ok (.iconst 1, 1) := by decide +kernel
theorem dX5_stakes_18 : decode cX5_stakes 18 = .ok (.aload_n 0, 1) := by decide +kernel
theorem dX5_stakes_19 : decode cX5_stakes 19 = .ok (.getfield 13, 3) := by decide +kernel
theorem dX5_stakes_22 : decode cX5_stakes 22 = .ok (.invokestatic 48, 3) := by decide +kernel
theorem dX5_stakes_25 : decode cX5_stakes 25 = .ok (.ifCond .ne 7, 3) := by decide +kernel
theorem dX5_stakes_28 : decode cX5_stakes 28 = .ok (.ldc2_w 84, 3) := by decide +kernel
theorem dX5_stakes_31 : decode cX5_stakes 31 = .ok (.lreturn, 1) := by decide +kernel
theorem dX5_stakes_32 : decode cX5_stakes 32 = .ok (.iload_n 2, 1) := by decide +kernel
theorem dX5_stakes_33 : decode cX5_stakes 33 = .ok (.ifCond .eq 11, 3) := by decide +kernel
theorem dX5_stakes_36 : decode cX5_stakes 36 = .ok (.iload_n 2, 1) := by decide +kernel
theorem dX5_stakes_37 : decode cX5_stakes 37 = .ok (.aload_n 0, 1) := by decide +kernel
theorem dX5_stakes_38 : decode cX5_stakes 38 = .ok (.getfield 7, 3) := by decide +kernel
theorem dX5_stakes_41 : decode cX5_stakes 41 = .ok (.if_icmp .ne 5, 3) := by decide +kernel
theorem dX5_stakes_44 : decode cX5_stakes 44 = .ok (.lconst 0, 1) := by decide +kernel
theorem dX5_stakes_45 : decode cX5_stakes 45 = .ok (.lreturn, 1) := by decide +kernel
theorem dX5_stakes_46 : decode cX5_stakes 46 = .ok (.aload_n 0, 1) := by decide +kernel
theorem dX5_stakes_47 : decode cX5_stakes 47 = .ok (.iload_n 3, 1) := by decide +kernel
theorem dX5_stakes_48 : decode cX5_stakes 48 = .ok (.iconst 0, 1) := by decide +kernel
theorem dX5_stakes_49 : decode cX5_stakes 49 = .ok (.iconst 0, 1) := by decide +kernel
theorem dX5_stakes_50 : decode cX5_stakes 50 = .ok (.aload_n 0, 1) := by decide +kernel
theorem dX5_stakes_51 : decode cX5_stakes 51 = .ok (.getfield 45, 3) := by decide +kernel
theorem dX5_stakes_54 : decode cX5_stakes 54 = .ok (.iconst 1, 1) := by decide +kernel
theorem dX5_stakes_55 : decode cX5_stakes 55 = .ok (.isub, 1) := by decide +kernel
theorem dX5_stakes_56 : decode cX5_stakes 56 = .ok (.invokevirtual 88, 3) := by decide +kernel
theorem dX5_stakes_59 : decode cX5_stakes 59 = .ok (.aload_n 0, 1) := by decide +kernel
theorem dX5_stakes_60 : decode cX5_stakes 60 = .ok (.getfield 35, 3) := by decide +kernel
theorem dX5_stakes_63 : decode cX5_stakes 63 = .ok (.bipush 33, 2) := by decide +kernel
theorem dX5_stakes_65 : decode cX5_stakes 65 = .ok (.iload_n 3, 1) := by decide +kernel
theorem dX5_stakes_66 : decode cX5_stakes 66 = .ok (.imul, 1) := by decide +kernel
theorem dX5_stakes_67 : decode cX5_stakes 67 = .ok (.iload_n 2, 1) := by decide +kernel
theorem dX5_stakes_68 : decode cX5_stakes 68 = .ok (.iadd, 1) := by decide +kernel
theorem dX5_stakes_69 : decode cX5_stakes 69 = .ok (.laload, 1) := by decide +kernel
theorem dX5_stakes_70 : decode cX5_stakes 70 = .ok (.lstore 4, 2) := by decide +kernel
theorem dX5_stakes_72 : decode cX5_stakes 72 = .ok (.ldc2_w 72, 3) := by decide +kernel
theorem dX5_stakes_75 : decode cX5_stakes 75 = .ok (.aload_n 0, 1) := by decide +kernel
theorem dX5_stakes_76 : decode cX5_stakes 76 = .ok (.getfield 35, 3) := by decide +kernel
theorem dX5_stakes_79 : decode cX5_stakes 79 = .ok (.bipush 33, 2) := by decide +kernel
theorem dX5_stakes_81 : decode cX5_stakes 81 = .ok (.iload_n 3, 1) := by decide +kernel
theorem dX5_stakes_82 : decode cX5_stakes 82 = .ok (.iconst 1, 1) := by decide +kernel
theorem dX5_stakes_83 : decode cX5_stakes 83 = .ok (.isub, 1) := by decide +kernel
theorem dX5_stakes_84 : decode cX5_stakes 84 = .ok (.imul, 1) := by decide +kernel
theorem dX5_stakes_85 : decode cX5_stakes 85 = .ok (.iload_n 2, 1) := by decide +kernel
theorem dX5_stakes_86 : decode cX5_stakes 86 = .ok (.iadd, 1) := by decide +kernel
theorem dX5_stakes_87 : decode cX5_stakes 87 = .ok (.laload, 1) := by decide +kernel
theorem dX5_stakes_88 : decode cX5_stakes 88 = .ok (.lmul, 1) := by decide +kernel
theorem dX5_stakes_89 : decode cX5_stakes 89 = .ok (.lload 4, 2) := by decide +kernel
theorem dX5_stakes_91 : decode cX5_stakes 91 = .ok (.lcmp, 1) := by decide +kernel
theorem dX5_stakes_92 : decode cX5_stakes 92 = .ok (.ifCond .ne 7, 3) := by decide +kernel
theorem dX5_stakes_95 : decode cX5_stakes 95 = .ok (.lconst 1, 1) := by decide +kernel
theorem dX5_stakes_96 : decode cX5_stakes 96 = .ok (.goto 4, 3) := by decide +kernel
theorem dX5_stakes_99 : decode cX5_stakes 99 = .ok (.lconst 0, 1) := by decide +kernel
theorem dX5_stakes_100 : decode cX5_stakes 100 = .ok (.lstore 6, 2) := by decide +kernel
theorem dX5_stakes_102 : decode cX5_stakes 102 = .ok (.iconst 1, 1) := by decide +kernel
theorem dX5_stakes_103 : decode cX5_stakes 103 = .ok (.istore 8, 2) := by decide +kernel
theorem dX5_stakes_105 : decode cX5_stakes 105 = .ok (.iload 8, 2) := by decide +kernel
theorem dX5_stakes_107 : decode cX5_stakes 107 = .ok (.aload_n 0, 1) := by decide +kernel
theorem dX5_stakes_108 : decode cX5_stakes 108 = .ok (.iload_n 1, 1) := by decide +kernel
theorem dX5_stakes_109 : decode cX5_stakes 109 = .ok (.iload_n 2, 1) := by decide +kernel
theorem dX5_stakes_110 : decode cX5_stakes 110 = .ok (.invokevirtual 74, 3) := by decide +kernel
theorem dX5_stakes_113 : decode cX5_stakes 113 = .ok (.if_icmp .gt 37, 3) := by decide +kernel
theorem dX5_stakes_116 : decode cX5_stakes 116 = .ok (.lload 6, 2) := by decide +kernel
theorem dX5_stakes_118 : decode cX5_stakes 118 = .ok (.aload_n 0, 1) := by decide +kernel
theorem dX5_stakes_119 : decode cX5_stakes 119 = .ok (.iload_n 1, 1) := by decide +kernel
theorem dX5_stakes_120 : decode cX5_stakes 120 = .ok (.iload_n 2, 1) := by decide +kernel
theorem dX5_stakes_121 : decode cX5_stakes 121 = .ok (.iload 8, 2) := by decide +kernel
theorem dX5_stakes_123 : decode cX5_stakes 123 = .ok (.iload_n 3, 1) := by decide +kernel
theorem dX5_stakes_124 : decode cX5_stakes 124 = .ok (.invokevirtual 77, 3) := by decide +kernel
theorem dX5_stakes_127 : decode cX5_stakes 127 = .ok (.lload 4, 2) := by decide +kernel
theorem dX5_stakes_129 : decode cX5_stakes 129 = .ok (.lcmp, 1) := by decide +kernel
theorem dX5_stakes_130 : decode cX5_stakes 130 = .ok (.ifCond .ne 10, 3) := by decide +kernel
theorem dX5_stakes_133 : decode cX5_stakes 133 = .ok (.lconst 1, 1) := by decide +kernel
theorem dX5_stakes_134 : decode cX5_stakes 134 = .ok (.iload 8, 2) := by decide +kernel
theorem dX5_stakes_136 : decode cX5_stakes 136 = .ok (.lshl, 1) := by decide +kernel
theorem dX5_stakes_137 : decode cX5_stakes 137 = .ok (.goto 4, 3) := by decide +kernel
theorem dX5_stakes_140 : decode cX5_stakes 140 = .ok (.lconst 0, 1) := by decide +kernel
theorem dX5_stakes_141 : decode cX5_stakes 141 = .ok (.lor, 1) := by decide +kernel
theorem dX5_stakes_142 : decode cX5_stakes 142 = .ok (.lstore 6, 2) := by decide +kernel
theorem dX5_stakes_144 : decode cX5_stakes 144 = .ok (.iinc 8 1, 3) := by decide +kernel
theorem dX5_stakes_147 : decode cX5_stakes 147 = .ok (.goto (-42), 3) := by decide +kernel
theorem dX5_stakes_150 : decode cX5_stakes 150 = .ok (.lload 6, 2) := by decide +kernel
theorem dX5_stakes_152 : decode cX5_stakes 152 = .ok (.lreturn, 1) := by decide +kernel
set_option maxRecDepth 20000 in
theorem ggX5_mean_X5_isPurse : GoodIn wsX5_mean wsX5_isPurse := goodIn_r _ [10, 11, 12, 13, 9, 14, 41, 42, 43, 44, 45, 46, 47, 48, 49, 50, 51, 52, 53, 54] (by decide +kernel) (by decide +kernel)
set_option maxRecDepth 20000 in
theorem gX5_mean_X5_isPurse : GoodIn wsX5_mean (wsV RX5 81 RX5 yX5_isPurse wsX5_isPurse) := goodIn_app (goodIn_of _ (by decide +kernel)) ggX5_mean_X5_isPurse
set_option maxRecDepth 20000 in
theorem ggX5_mean_X5_in : GoodIn wsX5_mean wsX5_in := goodIn_r _ [14] (by decide +kernel) (by decide +kernel)
set_option maxRecDepth 20000 in
theorem gX5_mean_X5_in : GoodIn wsX5_mean (va_wsS RX5 48 yX5_in wsX5_in) := goodIn_app (goodIn_of _ (by decide +kernel)) ggX5_mean_X5_in
set_option maxRecDepth 20000 in
theorem ggX5_mean_X5_work : GoodIn wsX5_mean wsX5_work := goodIn_r _ [18, 11, 5, 19, 20, 21, 22, 9, 23, 24, 25, 26, 27, 28, 29, 30, 31, 32, 33, 34, 35, 36, 37, 38, 39, 40, 41, 42, 43, 44, 45, 46, 47, 48, 49, 50, 51, 52, 53, 54] (by decide +kernel) (by decide +kernel)
set_option maxRecDepth 20000 in
theorem gX5_mean_X5_work : GoodIn wsX5_mean (wsV RX5 88 RX5 yX5_work wsX5_work) := goodIn_app (goodIn_of _ (by decide +kernel)) ggX5_mean_X5_work
theorem dX5_mean_0 : decode cX5_mean 0 = .ok (.aload_n 0, 1) := by decide +kernel
theorem dX5_mean_1 : decode cX5_mean 1 = .ok (.iload_n 1, 1) := by decide +kernel
theorem dX5_mean_2 : decode cX5_mean 2 = .ok (.invokevirtual 81, 3) := by decide +kernel
theorem dX5_mean_5 : decode cX5_mean 5 = .ok (.ifCond .eq 15, 3) := by decide +kernel
theorem dX5_mean_8 : decode cX5_mean 8 = .ok (.iload_n 2, 1) := by decide +kernel
theorem dX5_mean_9 : decode cX5_mean 9 = .ok (.iconst 0, 1) := by decide +kernel
theorem dX5_mean_10 : decode cX5_mean 10 = .ok (.aload_n 0, 1) := by decide +kernel
theorem dX5_mean_11 : decode cX5_mean 11 = .ok (.getfield 13, 3) := by decide +kernel
theorem dX5_mean_14 : decode cX5_mean 14 = .ok (.invokestatic 48, 3) := by decide +kernel
theorem dX5_mean_17 : decode cX5_mean 17 = .ok (.ifCond .ne 7, 3) := by decide +kernel
theorem dX5_mean_20 : decode cX5_mean 20 = .ok (.ldc2_w 84, 3) := by decide +kernel
theorem dX5_mean_23 : decode cX5_mean 23 = .ok (.lreturn, 1) := by decide +kernel
theorem dX5_mean_24 : decode cX5_mean 24 = .ok (.aload_n 0, 1) := by decide +kernel
theorem dX5_mean_25 : decode cX5_mean 25 = .ok (.getfield 45, 3) := by decide +kernel
theorem dX5_mean_28 : decode cX5_mean 28 = .ok (.ifCond .ne 7, 3) := by decide +kernel
theorem dX5_mean_31 : decode cX5_mean 31 = .ok (.ldc2_w 86, 3) := by decide +kernel
theorem dX5_mean_34 : decode cX5_mean 34 = .ok (.lreturn, 1) := by decide +kernel
theorem dX5_mean_35 : decode cX5_mean 35 = .ok (.aload_n 0, 1) := by decide +kernel
theorem dX5_mean_36 : decode cX5_mean 36 = .ok (.iload_n 2, 1) := by decide +kernel
theorem dX5_mean_37 : decode cX5_mean 37 = .ok (.iconst 1, 1) := by decide +kernel
theorem dX5_mean_38 : decode cX5_mean 38 = .ok (.iconst 0, 1) := by decide +kernel
theorem dX5_mean_39 : decode cX5_mean 39 = .ok (.aload_n 0, 1) := by decide +kernel
theorem dX5_mean_40 : decode cX5_mean 40 = .ok (.getfield 45, 3) := by decide +kernel
theorem dX5_mean_43 : decode cX5_mean 43 = .ok (.iconst 1, 1) := by decide +kernel
theorem dX5_mean_44 : decode cX5_mean 44 = .ok (.isub, 1) := by decide +kernel
theorem dX5_mean_45 : decode cX5_mean 45 = .ok (.invokevirtual 88, 3) := by decide +kernel
theorem dX5_mean_48 : decode cX5_mean 48 = .ok (.aload_n 0, 1) := by decide +kernel
theorem dX5_mean_49 : decode cX5_mean 49 = .ok (.getfield 35, 3) := by decide +kernel
theorem dX5_mean_52 : decode cX5_mean 52 = .ok (.bipush 33, 2) := by decide +kernel
theorem dX5_mean_54 : decode cX5_mean 54 = .ok (.iload_n 2, 1) := by decide +kernel
theorem dX5_mean_55 : decode cX5_mean 55 = .ok (.imul, 1) := by decide +kernel
theorem dX5_mean_56 : decode cX5_mean 56 = .ok (.iload_n 1, 1) := by decide +kernel
theorem dX5_mean_57 : decode cX5_mean 57 = .ok (.iadd, 1) := by decide +kernel
theorem dX5_mean_58 : decode cX5_mean 58 = .ok (.laload, 1) := by decide +kernel
theorem dX5_mean_59 : decode cX5_mean 59 = .ok (.lreturn, 1) := by decide +kernel
set_option maxRecDepth 20000 in
theorem ggX5_tell_X5_in : GoodIn wsX5_tell wsX5_in := goodIn_r _ [6] (by decide +kernel) (by decide +kernel)
set_option maxRecDepth 20000 in
theorem gX5_tell_X5_in : GoodIn wsX5_tell (va_wsS RX5 48 yX5_in wsX5_in) := goodIn_app (goodIn_of _ (by decide +kernel)) ggX5_tell_X5_in
theorem dX5_tell_0 : decode cX5_tell 0 = .ok (.iload_n 1, 1) := by decide +kernel
theorem dX5_tell_1 : decode cX5_tell 1 = .ok (.iconst 1, 1) := by decide +kernel
theorem dX5_tell_2 : decode cX5_tell 2 = .ok (.aload_n 0, 1) := by decide +kernel
theorem dX5_tell_3 : decode cX5_tell 3 = .ok (.getfield 7, 3) := by decide +kernel
theorem dX5_tell_6 : decode cX5_tell 6 = .ok (.iconst 1, 1) := by decide +kernel
theorem dX5_tell_7 : decode cX5_tell 7 = .ok (.isub, 1) := by decide +kernel
theorem dX5_tell_8 : decode cX5_tell 8 = .ok (.invokestatic 48, 3) := by decide +kernel
theorem dX5_tell_11 : decode cX5_tell 11 = .ok (.ifCond .eq 13, 3) := by decide +kernel
theorem dX5_tell_14 : decode cX5_tell 14 = .ok (.iload_n 2, 1) := by decide +kernel
theorem dX5_tell_15 : decode cX5_tell 15 = .ok (.iconst 0, 1) := by decide +kernel
theorem dX5_tell_16 : decode cX5_tell 16 = .ok (.bipush 32, 2) := by decide +kernel
theorem dX5_tell_18 : decode cX5_tell 18 = .ok (.invokestatic 48, 3) := by decide +kernel
theorem dX5_tell_21 : decode cX5_tell 21 = .ok (.ifCond .ne 5, 3) := by decide +kernel
theorem dX5_tell_24 : decode cX5_tell 24 = .ok (.iconst (-1), 1) := by decide +kernel
theorem dX5_tell_25 : decode cX5_tell 25 = .ok (.ireturn, 1) := by decide +kernel
theorem dX5_tell_26 : decode cX5_tell 26 = .ok (.aload_n 0, 1) := by decide +kernel
theorem dX5_tell_27 : decode cX5_tell 27 = .ok (.getfield 32, 3) := by decide +kernel
theorem dX5_tell_30 : decode cX5_tell 30 = .ok (.iload_n 1, 1) := by decide +kernel
theorem dX5_tell_31 : decode cX5_tell 31 = .ok (.iaload, 1) := by decide +kernel
theorem dX5_tell_32 : decode cX5_tell 32 = .ok (.istore_n 3, 1) := by decide +kernel
theorem dX5_tell_33 : decode cX5_tell 33 = .ok (.aload_n 0, 1) := by decide +kernel
theorem dX5_tell_34 : decode cX5_tell 34 = .ok (.getfield 32, 3) := by decide +kernel
theorem dX5_tell_37 : decode cX5_tell 37 = .ok (.iload_n 1, 1) := by decide +kernel
theorem dX5_tell_38 : decode cX5_tell 38 = .ok (.iload_n 2, 1) := by decide +kernel
theorem dX5_tell_39 : decode cX5_tell 39 = .ok (.iastore, 1) := by decide +kernel
theorem dX5_tell_40 : decode cX5_tell 40 = .ok (.iload_n 3, 1) := by decide +kernel
theorem dX5_tell_41 : decode cX5_tell 41 = .ok (.ireturn, 1) := by decide +kernel
theorem dX5_least_0 : decode cX5_least 0 = .ok (.iload_n 0, 1) := by decide +kernel
theorem dX5_least_1 : decode cX5_least 1 = .ok (.iload_n 1, 1) := by decide +kernel
theorem dX5_least_2 : decode cX5_least 2 = .ok (.if_icmp .ge 7, 3) := by decide +kernel
theorem dX5_least_5 : decode cX5_least 5 = .ok (.iload_n 0, 1) := by decide +kernel
theorem dX5_least_6 : decode cX5_least 6 = .ok (.goto 4, 3) := by decide +kernel
theorem dX5_least_9 : decode cX5_least 9 = .ok (.iload_n 1, 1) := by decide +kernel
theorem dX5_least_10 : decode cX5_least 10 = .ok (.ireturn, 1) := by decide +kernel
set_option maxRecDepth 20000 in
theorem ggX5_stakeOf_X5_mostAt : GoodIn wsX5_stakeOf wsX5_mostAt := goodIn_r _ [7, 8, 19, 20, 21, 22, 23, 24, 25, 26, 27, 28, 29, 30, 31, 32] (by decide +kernel) (by decide +kernel)
set_option maxRecDepth 20000 in
theorem gX5_stakeOf_X5_mostAt : GoodIn wsX5_stakeOf (wsV RX5 74 RX5 yX5_mostAt wsX5_mostAt) := goodIn_app (goodIn_of _ (by decide +kernel)) ggX5_stakeOf_X5_mostAt
set_option maxRecDepth 20000 in
theorem ggX5_stakeOf_X5_least : GoodIn wsX5_stakeOf wsX5_least := goodIn_r _ [11] (by decide +kernel) (by decide +kernel)
set_option maxRecDepth 20000 in
theorem gX5_stakeOf_X5_least : GoodIn wsX5_stakeOf (va_wsS RX5 92 yX5_least wsX5_least) := goodIn_app (goodIn_of _ (by decide +kernel)) ggX5_stakeOf_X5_least
set_option maxRecDepth 20000 in
theorem ggX5_stakeOf_X5_winOf : GoodIn wsX5_stakeOf wsX5_winOf := goodIn_r _ [15, 16, 17, 18, 19, 20, 21, 22, 23, 24, 25, 26, 27, 28, 29, 30, 31, 32] (by decide +kernel) (by decide +kernel)
set_option maxRecDepth 20000 in
theorem gX5_stakeOf_X5_winOf : GoodIn wsX5_stakeOf (wsV RX5 64 RX5 yX5_winOf wsX5_winOf) := goodIn_app (goodIn_of _ (by decide +kernel)) ggX5_stakeOf_X5_winOf
theorem dX5_stakeOf_0 : decode cX5_stakeOf 0 = .ok (.aload_n 0, 1) := by decide +kernel
theorem dX5_stakeOf_1 : decode cX5_stakeOf 1 = .ok (.iload_n 2, 1) := by decide +kernel
theorem dX5_stakeOf_2 : decode cX5_stakeOf 2 = .ok (.iload_n 3, 1) := by decide +kernel
theorem dX5_stakeOf_3 : decode cX5_stakeOf 3 = .ok (.invokevirtual 74, 3) := by decide +kernel
theorem dX5_stakeOf_6 : decode cX5_stakeOf 6 = .ok (.istore 4, 2) := by decide +kernel
theorem dX5_stakeOf_8 : decode cX5_stakeOf 8 = .ok (.iload_n 1, 1) := by decide +kernel
theorem dX5_stakeOf_9 : decode cX5_stakeOf 9 = .ok (.iconst 1, 1) := by decide +kernel
theorem dX5_stakeOf_10 : decode cX5_stakeOf 10 = .ok (.if_icmp .ne 5, 3) := by decide +kernel
theorem dX5_stakeOf_13 : decode cX5_stakeOf 13 = .ok (.iconst 1, 1) := by decide +kernel
theorem dX5_stakeOf_14 : decode cX5_stakeOf 14 = .ok (.ireturn, 1) := by decide +kernel
theorem dX5_stakeOf_15 : decode cX5_stakeOf 15 = .ok (.iload_n 1, 1) := by decide +kernel
theorem dX5_stakeOf_16 : decode cX5_stakeOf 16 = .ok (.iconst 2, 1) := by decide +kernel
theorem dX5_stakeOf_17 : decode cX5_stakeOf 17 = .ok (.if_icmp .ne 15, 3) := by decide +kernel
theorem dX5_stakeOf_20 : decode cX5_stakeOf 20 = .ok (.aload_n 0, 1) := by decide +kernel
theorem dX5_stakeOf_21 : decode cX5_stakeOf 21 = .ok (.getfield 32, 3) := by decide +kernel
theorem dX5_stakeOf_24 : decode cX5_stakeOf 24 = .ok (.iload_n 3, 1) := by decide +kernel
theorem dX5_stakeOf_25 : decode cX5_stakeOf 25 = .ok (.iaload, 1) := by decide +kernel
theorem dX5_stakeOf_26 : decode cX5_stakeOf 26 = .ok (.iload 4, 2) := by decide +kernel
theorem dX5_stakeOf_28 : decode cX5_stakeOf 28 = .ok (.invokestatic 92, 3) := by decide +kernel
theorem dX5_stakeOf_31 : decode cX5_stakeOf 31 = .ok (.ireturn, 1) := by decide +kernel
theorem dX5_stakeOf_32 : decode cX5_stakeOf 32 = .ok (.iconst 1, 1) := by decide +kernel
theorem dX5_stakeOf_33 : decode cX5_stakeOf 33 = .ok (.istore 5, 2) := by decide +kernel
theorem dX5_stakeOf_35 : decode cX5_stakeOf 35 = .ok (.iload 5, 2) := by decide +kernel
theorem dX5_stakeOf_37 : decode cX5_stakeOf 37 = .ok (.iload 4, 2) := by decide +kernel
theorem dX5_stakeOf_39 : decode cX5_stakeOf 39 = .ok (.if_icmp .gt 28, 3) := by decide +kernel
theorem dX5_stakeOf_42 : decode cX5_stakeOf 42 = .ok (.iload_n 3, 1) := by decide +kernel
theorem dX5_stakeOf_43 : decode cX5_stakeOf 43 = .ok (.aload_n 0, 1) := by decide +kernel
theorem dX5_stakeOf_44 : decode cX5_stakeOf 44 = .ok (.iload_n 2, 1) := by decide +kernel
theorem dX5_stakeOf_45 : decode cX5_stakeOf 45 = .ok (.iload 5, 2) := by decide +kernel
theorem dX5_stakeOf_47 : decode cX5_stakeOf 47 = .ok (.invokevirtual 64, 3) := by decide +kernel
theorem dX5_stakeOf_50 : decode cX5_stakeOf 50 = .ok (.iadd, 1) := by decide +kernel
theorem dX5_stakeOf_51 : decode cX5_stakeOf 51 = .ok (.aload_n 0, 1) := by decide +kernel
theorem dX5_stakeOf_52 : decode cX5_stakeOf 52 = .ok (.getfield 7, 3) := by decide +kernel
theorem dX5_stakeOf_55 : decode cX5_stakeOf 55 = .ok (.if_icmp .lt 6, 3) := by decide +kernel
theorem dX5_stakeOf_58 : decode cX5_stakeOf 58 = .ok (.iload 5, 2) := by decide +kernel
theorem dX5_stakeOf_60 : decode cX5_stakeOf 60 = .ok (.ireturn, 1) := by decide +kernel
theorem dX5_stakeOf_61 : decode cX5_stakeOf 61 = .ok (.iinc 5 1, 3) := by decide +kernel
theorem dX5_stakeOf_64 : decode cX5_stakeOf 64 = .ok (.goto (-29), 3) := by decide +kernel
theorem dX5_stakeOf_67 : decode cX5_stakeOf 67 = .ok (.iload 4, 2) := by decide +kernel
theorem dX5_stakeOf_69 : decode cX5_stakeOf 69 = .ok (.ireturn, 1) := by decide +kernel
set_option maxRecDepth 20000 in
theorem ggX5_stake_X5_in : GoodIn wsX5_stake wsX5_in := goodIn_r _ [5] (by decide +kernel) (by decide +kernel)
set_option maxRecDepth 20000 in
theorem gX5_stake_X5_in : GoodIn wsX5_stake (va_wsS RX5 48 yX5_in wsX5_in) := goodIn_app (goodIn_of _ (by decide +kernel)) ggX5_stake_X5_in
set_option maxRecDepth 20000 in
theorem ggX5_stake_X5_isGame : GoodIn wsX5_stake wsX5_isGame := goodIn_r _ [9, 10, 2, 3, 4, 5, 31, 32, 33, 34, 35, 36, 37, 38, 39, 40, 41, 42, 43, 44] (by decide +kernel) (by decide +kernel)
set_option maxRecDepth 20000 in
theorem gX5_stake_X5_isGame : GoodIn wsX5_stake (wsV RX5 52 RX5 yX5_isGame wsX5_isGame) := goodIn_app (goodIn_of _ (by decide +kernel)) ggX5_stake_X5_isGame
set_option maxRecDepth 20000 in
theorem ggX5_stake_X5_stakeOf : GoodIn wsX5_stake wsX5_stakeOf := goodIn_r _ [14, 15, 1, 16, 17, 18, 4, 19, 20, 21, 22, 23, 24, 25, 26, 27, 28, 29, 30, 31, 32, 33, 34, 35, 36, 37, 38, 39, 40, 41, 42, 43, 44] (by decide +kernel) (by decide +kernel)
set_option maxRecDepth 20000 in
theorem gX5_stake_X5_stakeOf : GoodIn wsX5_stake (wsV RX5 95 RX5 yX5_stakeOf wsX5_stakeOf) := goodIn_app (goodIn_of _ (by decide +kernel)) ggX5_stake_X5_stakeOf
theorem dX5_stake_0 : decode cX5_stake 0 = .ok (.iload_n 1, 1) := by decide +kernel
theorem dX5_stake_1 : decode cX5_stake 1 = .ok (.iconst 0, 1) := by decide +kernel
theorem dX5_stake_2 : decode cX5_stake 2 = .ok (.iconst 2, 1) := by decide +kernel
theorem dX5_stake_3 : decode cX5_stake 3 = .ok (.invokestatic 48, 3) := by decide +kernel
theorem dX5_stake_6 : decode cX5_stake 6 = .ok (.ifCond .eq 35, 3) := by decide +kernel
theorem dX5_stake_9 : decode cX5_stake 9 = .ok (.aload_n 0, 1) := by decide +kernel
theorem dX5_stake_10 : decode cX5_stake 10 = .ok (.iload_n 2, 1) := by decide +kernel
theorem dX5_stake_11 : decode cX5_stake 11 = .ok (.invokevirtual 52, 3) := by decide +kernel
theorem dX5_stake_14 : decode cX5_stake 14 = .ok (.ifCond .eq 27, 3) := by decide +kernel
theorem dX5_stake_17 : decode cX5_stake 17 = .ok (.iload_n 3, 1) := by decide +kernel
theorem dX5_stake_18 : decode cX5_stake 18 = .ok (.iconst 1, 1) := by decide +kernel
theorem dX5_stake_19 : decode cX5_stake 19 = .ok (.aload_n 0, 1) := by decide +kernel
theorem dX5_stake_20 : decode cX5_stake 20 = .ok (.getfield 7, 3) := by decide +kernel
theorem dX5_stake_23 : decode cX5_stake 23 = .ok (.iconst 1, 1) := by decide +kernel
theorem dX5_stake_24 : decode cX5_stake 24 = .ok (.isub, 1) := by decide +kernel
theorem dX5_stake_25 : decode cX5_stake 25 = .ok (.invokestatic 48, 3) := by decide +kernel
theorem dX5_stake_28 : decode cX5_stake 28 = .ok (.ifCond .eq 13, 3) := by decide +kernel
theorem dX5_stake_31 : decode cX5_stake 31 = .ok (.aload_n 0, 1) := by decide +kernel
theorem dX5_stake_32 : decode cX5_stake 32 = .ok (.iload_n 1, 1) := by decide +kernel
theorem dX5_stake_33 : decode cX5_stake 33 = .ok (.iload_n 2, 1) := by decide +kernel
theorem dX5_stake_34 : decode cX5_stake 34 = .ok (.iload_n 3, 1) := by decide +kernel
theorem dX5_stake_35 : decode cX5_stake 35 = .ok (.invokevirtual 95, 3) := by decide +kernel
theorem dX5_stake_38 : decode cX5_stake 38 = .ok (.goto 4, 3) := by decide +kernel
theorem dX5_stake_41 : decode cX5_stake 41 = .ok (.iconst (-1), 1) := by decide +kernel
theorem dX5_stake_42 : decode cX5_stake 42 = .ok (.ireturn, 1) := by decide +kernel
set_option maxRecDepth 20000 in
theorem ggX5_follow_X5_mostAt : GoodIn wsX5_follow wsX5_mostAt := goodIn_r _ [11, 12, 32, 33, 34, 35, 36, 37, 38, 39, 40, 41, 42, 43, 44, 45] (by decide +kernel) (by decide +kernel)
set_option maxRecDepth 20000 in
theorem gX5_follow_X5_mostAt : GoodIn wsX5_follow (wsV RX5 74 RX5 yX5_mostAt wsX5_mostAt) := goodIn_app (goodIn_of _ (by decide +kernel)) ggX5_follow_X5_mostAt
set_option maxRecDepth 20000 in
theorem ggX5_follow_X5_least : GoodIn wsX5_follow wsX5_least := goodIn_r _ [15] (by decide +kernel) (by decide +kernel)
set_option maxRecDepth 20000 in
theorem gX5_follow_X5_least : GoodIn wsX5_follow (va_wsS RX5 92 yX5_least wsX5_least) := goodIn_app (goodIn_of _ (by decide +kernel)) ggX5_follow_X5_least
set_option maxRecDepth 20000 in
theorem ggX5_follow_X5_stakeOf : GoodIn wsX5_follow wsX5_stakeOf := goodIn_r _ [19, 20, 5, 7, 8, 9, 10, 11, 12, 13, 14, 15, 21, 22, 23, 24, 25, 26, 27, 32, 33, 34, 35, 36, 37, 38, 39, 40, 41, 42, 43, 44, 45] (by decide +kernel) (by decide +kernel)
set_option maxRecDepth 20000 in
theorem gX5_follow_X5_stakeOf : GoodIn wsX5_follow (wsV RX5 95 RX5 yX5_stakeOf wsX5_stakeOf) := goodIn_app (goodIn_of _ (by decide +kernel)) ggX5_follow_X5_stakeOf
set_option maxRecDepth 20000 in
theorem ggX5_follow_X5_behind : GoodIn wsX5_follow wsX5_behind := goodIn_r _ [31, 5, 21, 22, 23, 10, 24, 25, 26, 27, 32, 33, 34, 35, 36, 37, 38, 39, 40, 41, 42, 43, 44, 45] (by decide +kernel) (by decide +kernel)
set_option maxRecDepth 20000 in
theorem gX5_follow_X5_behind : GoodIn wsX5_follow (wsV RX5 68 RX5 yX5_behind wsX5_behind) := goodIn_app (goodIn_of _ (by decide +kernel)) ggX5_follow_X5_behind
theorem dX5_follow_0 : decode cX5_follow 0 = .ok (.iconst 0, 1) := by decide +kernel
theorem dX5_follow_1 : decode cX5_follow 1 = .ok (.istore 5, 2) := by decide +kernel
theorem dX5_follow_3 : decode cX5_follow 3 = .ok (.iload 5, 2) := by decide +kernel
theorem dX5_follow_5 : decode cX5_follow 5 = .ok (.sipush 2145, 3) := by decide +kernel
theorem dX5_follow_8 : decode cX5_follow 8 = .ok (.if_icmp .ge 17, 3) := by decide +kernel
theorem dX5_follow_11 : decode cX5_follow 11 = .ok (.aload_n 0, 1) := by decide +kernel
theorem dX5_follow_12 : decode cX5_follow 12 = .ok (.getfield 39, 3) := by decide +kernel
theorem dX5_follow_15 : decode cX5_follow 15 = .ok (.iload 5, 2) := by decide +kernel
theorem dX5_follow_17 : decode cX5_follow 17 = .ok (.lconst 0, 1) := by decide +kernel
theorem dX5_follow_18 : decode cX5_follow 18 = .ok (.lastore, 1) := by decide +kernel
theorem dX5_follow_19 : decode cX5_follow 19 = .ok (.iinc 5 1, 3) := by decide +kernel
theorem dX5_follow_22 : decode cX5_follow 22 = .ok (.goto (-19), 3) := by decide +kernel
theorem dX5_follow_25 : decode cX5_follow 25 = .ok (.aload_n 0, 1) := by decide +kernel
theorem dX5_follow_26 : decode cX5_follow 26 = .ok (.getfield 39, 3) := by decide +kernel
theorem dX5_follow_29 : decode cX5_follow 29 = .ok (.bipush 65, 2) := by decide +kernel
theorem dX5_follow_31 : decode cX5_follow 31 = .ok (.iload_n 3, 1) := by decide +kernel
theorem dX5_follow_32 : decode cX5_follow 32 = .ok (.imul, 1) := by decide +kernel
theorem dX5_follow_33 : decode cX5_follow 33 = .ok (.iconst 1, 1) := by decide +kernel
theorem dX5_follow_34 : decode cX5_follow 34 = .ok (.iadd, 1) := by decide +kernel
theorem dX5_follow_35 : decode cX5_follow 35 = .ok (.lconst 1, 1) := by decide +kernel
theorem dX5_follow_36 : decode cX5_follow 36 = .ok (.lastore, 1) := by decide +kernel
theorem dX5_follow_37 : decode cX5_follow 37 = .ok (.aload_n 0, 1) := by decide +kernel
theorem dX5_follow_38 : decode cX5_follow 38 = .ok (.lconst 0, 1) := by decide +kernel
theorem dX5_follow_39 : decode cX5_follow 39 = .ok (.putfield 98, 3) := by decide +kernel
theorem dX5_follow_42 : decode cX5_follow 42 = .ok (.iconst 0, 1) := by decide +kernel
theorem dX5_follow_43 : decode cX5_follow 43 = .ok (.istore 5, 2) := by decide +kernel
theorem dX5_follow_45 : decode cX5_follow 45 = .ok (.iload 5, 2) := by decide +kernel
theorem dX5_follow_47 : decode cX5_follow 47 = .ok (.iload 4, 2) := by decide +kernel
theorem dX5_follow_49 : decode cX5_follow 49 = .ok (.if_icmp .ge 312, 3) := by decide +kernel
theorem dX5_follow_52 : decode cX5_follow 52 = .ok (.iconst 0, 1) := by decide +kernel
theorem dX5_follow_53 : decode cX5_follow 53 = .ok (.istore 6, 2) := by decide +kernel
theorem dX5_follow_55 : decode cX5_follow 55 = .ok (.iload 6, 2) := by decide +kernel
theorem dX5_follow_57 : decode cX5_follow 57 = .ok (.sipush 2145, 3) := by decide +kernel
theorem dX5_follow_60 : decode cX5_follow 60 = .ok (.if_icmp .ge 17, 3) := by decide +kernel
theorem dX5_follow_63 : decode cX5_follow 63 = .ok (.aload_n 0, 1) := by decide +kernel
theorem dX5_follow_64 : decode cX5_follow 64 = .ok (.getfield 42, 3) := by decide +kernel
theorem dX5_follow_67 : decode cX5_follow 67 = .ok (.iload 6, 2) := by decide +kernel
theorem dX5_follow_69 : decode cX5_follow 69 = .ok (.lconst 0, 1) := by decide +kernel
theorem dX5_follow_70 : decode cX5_follow 70 = .ok (.lastore, 1) := by decide +kernel
theorem dX5_follow_71 : decode cX5_follow 71 = .ok (.iinc 6 1, 3) := by decide +kernel
theorem dX5_follow_74 : decode cX5_follow 74 = .ok (.goto (-19), 3) := by decide +kernel
theorem dX5_follow_77 : decode cX5_follow 77 = .ok (.aload_n 0, 1) := by decide +kernel
theorem dX5_follow_78 : decode cX5_follow 78 = .ok (.dup, 1) := by decide +kernel
theorem dX5_follow_79 : decode cX5_follow 79 = .ok (.getfield 98, 3) := by decide +kernel
theorem dX5_follow_82 : decode cX5_follow 82 = .ok (.ldc2_w 72, 3) := by decide +kernel
theorem dX5_follow_85 : decode cX5_follow 85 = .ok (.lmul, 1) := by decide +kernel
theorem dX5_follow_86 : decode cX5_follow 86 = .ok (.putfield 98, 3) := by decide +kernel
theorem dX5_follow_89 : decode cX5_follow 89 = .ok (.lconst 0, 1) := by decide +kernel
theorem dX5_follow_90 : decode cX5_follow 90 = .ok (.lstore 6, 2) := by decide +kernel
theorem dX5_follow_92 : decode cX5_follow 92 = .ok (.iconst 0, 1) := by decide +kernel
theorem dX5_follow_93 : decode cX5_follow 93 = .ok (.istore 8, 2) := by decide +kernel
theorem dX5_follow_95 : decode cX5_follow 95 = .ok (.iload 8, 2) := by decide +kernel
theorem dX5_follow_97 : decode cX5_follow 97 = .ok (.sipush 2145, 3) := by decide +kernel
theorem dX5_follow_100 : decode cX5_follow 100 = .ok (.if_icmp .ge 209, 3) := by decide +kernel
theorem dX5_follow_103 : decode cX5_follow 103 = .ok (.aload_n 0, 1) := by decide +kernel
theorem dX5_follow_104 : decode cX5_follow 104 = .ok (.getfield 39, 3) := by decide +kernel
theorem dX5_follow_107 : decode cX5_follow 107 = .ok (.iload 8, 2) := by decide +kernel
theorem dX5_follow_109 : decode cX5_follow 109 = .ok (.laload, 1) := by decide +kernel
theorem dX5_follow_110 : decode cX5_follow 110 = .ok (.lconst 0, 1) := by decide +kernel
theorem dX5_follow_111 : decode cX5_follow 111 = .ok (.lcmp, 1) := by decide +kernel
theorem dX5_follow_112 : decode cX5_follow 112 = .ok (.ifCond .le 191, 3) := by decide +kernel
theorem dX5_follow_115 : decode cX5_follow 115 = .ok (.iload 8, 2) := by decide +kernel
theorem dX5_follow_117 : decode cX5_follow 117 = .ok (.bipush 65, 2) := by decide +kernel
theorem dX5_follow_119 : decode cX5_follow 119 = .ok (.idiv, 1) := by decide +kernel
theorem dX5_follow_120 : decode cX5_follow 120 = .ok (.istore 9, 2) := by decide +kernel
theorem dX5_follow_122 : decode cX5_follow 122 = .ok (.iload 8, 2) := by decide +kernel
theorem dX5_follow_124 : decode cX5_follow 124 = .ok (.bipush 65, 2) := by decide +kernel
theorem dX5_follow_126 : decode cX5_follow 126 = .ok (.irem, 1) := by decide +kernel
theorem dX5_follow_127 : decode cX5_follow 127 = .ok (.istore 10, 2) := by decide +kernel
theorem dX5_follow_129 : decode cX5_follow 129 = .ok (.iload 9, 2) := by decide +kernel
theorem dX5_follow_131 : decode cX5_follow 131 = .ok (.ifCond .eq 12, 3) := by decide +kernel
theorem dX5_follow_134 : decode cX5_follow 134 = .ok (.iload 9, 2) := by decide +kernel
theorem dX5_follow_136 : decode cX5_follow 136 = .ok (.aload_n 0, 1) := by decide +kernel
theorem dX5_follow_137 : decode cX5_follow 137 = .ok (.getfield 7, 3) := by decide +kernel
theorem dX5_follow_140 : decode cX5_follow 140 = .ok (.if_icmp .ne 7, 3) := by decide +kernel
theorem dX5_follow_143 : decode cX5_follow 143 = .ok (.iconst 0, 1) := by decide +kernel
theorem dX5_follow_144 : decode cX5_follow 144 = .ok (.goto 31, 3) := by decide +kernel
theorem dX5_follow_147 : decode cX5_follow 147 = .ok (.iload_n 1, 1) := by decide +kernel
theorem dX5_follow_148 : decode cX5_follow 148 = .ok (.iconst 3, 1) := by decide +kernel
theorem dX5_follow_149 : decode cX5_follow 149 = .ok (.if_icmp .ne 18, 3) := by decide +kernel
theorem dX5_follow_152 : decode cX5_follow 152 = .ok (.iload 10, 2) := by decide +kernel
theorem dX5_follow_154 : decode cX5_follow 154 = .ok (.aload_n 0, 1) := by decide +kernel
theorem dX5_follow_155 : decode cX5_follow 155 = .ok (.iload_n 2, 1) := by decide +kernel
theorem dX5_follow_156 : decode cX5_follow 156 = .ok (.iload 9, 2) := by decide +kernel
theorem dX5_follow_158 : decode cX5_follow 158 = .ok (.invokevirtual 74, 3) := by decide +kernel
theorem dX5_follow_161 : decode cX5_follow 161 = .ok (.invokestatic 92, 3) := by decide +kernel
theorem dX5_follow_164 : decode cX5_follow 164 = .ok (.goto 11, 3) := by decide +kernel
theorem dX5_follow_167 : decode cX5_follow 167 = .ok (.aload_n 0, 1) := by decide +kernel
theorem dX5_follow_168 : decode cX5_follow 168 = .ok (.iload_n 1, 1) := by decide +kernel
theorem dX5_follow_169 : decode cX5_follow 169 = .ok (.iload_n 2, 1) := by decide +kernel
theorem dX5_follow_170 : decode cX5_follow 170 = .ok (.iload 9, 2) := by decide +kernel
theorem dX5_follow_172 : decode cX5_follow 172 = .ok (.invokevirtual 95, 3) := by decide +kernel
theorem dX5_follow_175 : decode cX5_follow 175 = .ok (.istore 11, 2) := by decide +kernel
theorem dX5_follow_177 : decode cX5_follow 177 = .ok (.iload 11, 2) := by decide +kernel
theorem dX5_follow_179 : decode cX5_follow 179 = .ok (.ifCond .ne 27, 3) := by decide +kernel
theorem dX5_follow_182 : decode cX5_follow 182 = .ok (.aload_n 0, 1) := by decide +kernel
theorem dX5_follow_183 : decode cX5_follow 183 = .ok (.getfield 42, 3) := by decide +kernel
theorem dX5_follow_186 : decode cX5_follow 186 = .ok (.iload 8, 2) := by decide +kernel
theorem dX5_follow_188 : decode cX5_follow 188 = .ok (.dup2, 1) := by decide +kernel
theorem dX5_follow_189 : decode cX5_follow 189 = .ok (.laload, 1) := by decide +kernel
theorem dX5_follow_190 : decode cX5_follow 190 = .ok (.ldc2_w 72, 3) := by decide +kernel
theorem dX5_follow_193 : decode cX5_follow 193 = .ok (.aload_n 0, 1) := by decide +kernel
theorem dX5_follow_194 : decode cX5_follow 194 = .ok (.getfield 39, 3) := by decide +kernel
theorem dX5_follow_197 : decode cX5_follow 197 = .ok (.iload 8, 2) := by decide +kernel
theorem dX5_follow_199 : decode cX5_follow 199 = .ok (.laload, 1) := by decide +kernel
theorem dX5_follow_200 : decode cX5_follow 200 = .ok (.lmul, 1) := by decide +kernel
theorem dX5_follow_201 : decode cX5_follow 201 = .ok (.ladd, 1) := by decide +kernel
theorem dX5_follow_202 : decode cX5_follow 202 = .ok (.lastore, 1) := by decide +kernel
theorem dX5_follow_203 : decode cX5_follow 203 = .ok (.goto 100, 3) := by decide +kernel
theorem dX5_follow_206 : decode cX5_follow 206 = .ok (.lload 6, 2) := by decide +kernel
theorem dX5_follow_208 : decode cX5_follow 208 = .ok (.aload_n 0, 1) := by decide +kernel
theorem dX5_follow_209 : decode cX5_follow 209 = .ok (.getfield 39, 3) := by decide +kernel
theorem dX5_follow_212 : decode cX5_follow 212 = .ok (.iload 8, 2) := by decide +kernel
theorem dX5_follow_214 : decode cX5_follow 214 = .ok (.laload, 1) := by decide +kernel
theorem dX5_follow_215 : decode cX5_follow 215 = .ok (.ladd, 1) := by decide +kernel
theorem dX5_follow_216 : decode cX5_follow 216 = .ok (.lstore 6, 2) := by decide +kernel
theorem dX5_follow_218 : decode cX5_follow 218 = .ok (.aload_n 0, 1) := by decide +kernel
theorem dX5_follow_219 : decode cX5_follow 219 = .ok (.getfield 42, 3) := by decide +kernel
theorem dX5_follow_222 : decode cX5_follow 222 = .ok (.bipush 65, 2) := by decide +kernel
theorem dX5_follow_224 : decode cX5_follow 224 = .ok (.aload_n 0, 1) := by decide +kernel
theorem dX5_follow_225 : decode cX5_follow 225 = .ok (.iload_n 2, 1) := by decide +kernel
theorem dX5_follow_226 : decode cX5_follow 226 = .ok (.iload 9, 2) := by decide +kernel
theorem dX5_follow_228 : decode cX5_follow 228 = .ok (.iload 11, 2) := by decide +kernel
theorem dX5_follow_230 : decode cX5_follow 230 = .ok (.invokevirtual 68, 3) := by decide +kernel
theorem dX5_follow_233 : decode cX5_follow 233 = .ok (.imul, 1) := by decide +kernel
theorem dX5_follow_234 : decode cX5_follow 234 = .ok (.iconst 1, 1) := by decide +kernel
theorem dX5_follow_235 : decode cX5_follow 235 = .ok (.iadd, 1) := by decide +kernel
theorem dX5_follow_236 : decode cX5_follow 236 = .ok (.dup2, 1) := by decide +kernel
theorem dX5_follow_237 : decode cX5_follow 237 = .ok (.laload, 1) := by decide +kernel
theorem dX5_follow_238 : decode cX5_follow 238 = .ok (.aload_n 0, 1) := by decide +kernel
theorem dX5_follow_239 : decode cX5_follow 239 = .ok (.getfield 20, 3) := by decide +kernel
theorem dX5_follow_242 : decode cX5_follow 242 = .ok (.iload_n 2, 1) := by decide +kernel
theorem dX5_follow_243 : decode cX5_follow 243 = .ok (.iaload, 1) := by decide +kernel
theorem dX5_follow_244 : decode cX5_follow 244 = .ok (.i2l, 1) := by decide +kernel
theorem dX5_follow_245 : decode cX5_follow 245 = .ok (.aload_n 0, 1) := by decide +kernel
theorem dX5_follow_246 : decode cX5_follow 246 = .ok (.getfield 39, 3) := by decide +kernel
theorem dX5_follow_249 : decode cX5_follow 249 = .ok (.iload 8, 2) := by decide +kernel
theorem dX5_follow_251 : decode cX5_follow 251 = .ok (.laload, 1) := by decide +kernel
theorem dX5_follow_252 : decode cX5_follow 252 = .ok (.lmul, 1) := by decide +kernel
theorem dX5_follow_253 : decode cX5_follow 253 = .ok (.ladd, 1) := by decide +kernel
theorem dX5_follow_254 : decode cX5_follow 254 = .ok (.lastore, 1) := by decide +kernel
theorem dX5_follow_255 : decode cX5_follow 255 = .ok (.aload_n 0, 1) := by decide +kernel
theorem dX5_follow_256 : decode cX5_follow 256 = .ok (.getfield 42, 3) := by decide +kernel
theorem dX5_follow_259 : decode cX5_follow 259 = .ok (.bipush 65, 2) := by decide +kernel
theorem dX5_follow_261 : decode cX5_follow 261 = .ok (.iload 9, 2) := by decide +kernel
theorem dX5_follow_263 : decode cX5_follow 263 = .ok (.iload 11, 2) := by decide +kernel
theorem dX5_follow_265 : decode cX5_follow 265 = .ok (.isub, 1) := by decide +kernel
theorem dX5_follow_266 : decode cX5_follow 266 = .ok (.imul, 1) := by decide +kernel
theorem dX5_follow_267 : decode cX5_follow 267 = .ok (.iload_n 1, 1) := by decide +kernel
theorem dX5_follow_268 : decode cX5_follow 268 = .ok (.iconst 3, 1) := by decide +kernel
theorem dX5_follow_269 : decode cX5_follow 269 = .ok (.if_icmp .ne 10, 3) := by decide +kernel
theorem dX5_follow_272 : decode cX5_follow 272 = .ok (.iconst 2, 1) := by decide +kernel
theorem dX5_follow_273 : decode cX5_follow 273 = .ok (.iload 11, 2) := by decide +kernel
theorem dX5_follow_275 : decode cX5_follow 275 = .ok (.imul, 1) := by decide +kernel
theorem dX5_follow_276 : decode cX5_follow 276 = .ok (.goto 4, 3) := by decide +kernel
theorem dX5_follow_279 : decode cX5_follow 279 = .ok (.iconst 1, 1) := by decide +kernel
theorem dX5_follow_280 : decode cX5_follow 280 = .ok (.iadd, 1) := by decide +kernel
theorem dX5_follow_281 : decode cX5_follow 281 = .ok (.dup2, 1) := by decide +kernel
theorem dX5_follow_282 : decode cX5_follow 282 = .ok (.laload, 1) := by decide +kernel
theorem dX5_follow_283 : decode cX5_follow 283 = .ok (.bipush 16, 2) := by decide +kernel
theorem dX5_follow_285 : decode cX5_follow 285 = .ok (.aload_n 0, 1) := by decide +kernel
theorem dX5_follow_286 : decode cX5_follow 286 = .ok (.getfield 20, 3) := by decide +kernel
theorem dX5_follow_289 : decode cX5_follow 289 = .ok (.iload_n 2, 1) := by decide +kernel
theorem dX5_follow_290 : decode cX5_follow 290 = .ok (.iaload, 1) := by decide +kernel
theorem dX5_follow_291 : decode cX5_follow 291 = .ok (.isub, 1) := by decide +kernel
theorem dX5_follow_292 : decode cX5_follow 292 = .ok (.i2l, 1) := by decide +kernel
theorem dX5_follow_293 : decode cX5_follow 293 = .ok (.aload_n 0, 1) := by decide +kernel
theorem dX5_follow_294 : decode cX5_follow 294 = .ok (.getfield 39, 3) := by decide +kernel
theorem dX5_follow_297 : decode cX5_follow 297 = .ok (.iload 8, 2) := by decide +kernel
theorem dX5_follow_299 : decode cX5_follow 299 = .ok (.laload, 1) := by decide +kernel
theorem dX5_follow_300 : decode cX5_follow 300 = .ok (.lmul, 1) := by decide +kernel
theorem dX5_follow_301 : decode cX5_follow 301 = .ok (.ladd, 1) := by decide +kernel
theorem dX5_follow_302 : decode cX5_follow 302 = .ok (.lastore, 1) := by decide +kernel
theorem dX5_follow_303 : decode cX5_follow 303 = .ok (.iinc 8 1, 3) := by decide +kernel
theorem dX5_follow_306 : decode cX5_follow 306 = .ok (.goto (-211), 3) := by decide +kernel
theorem dX5_follow_309 : decode cX5_follow 309 = .ok (.aload_n 0, 1) := by decide +kernel
theorem dX5_follow_310 : decode cX5_follow 310 = .ok (.dup, 1) := by decide +kernel
theorem dX5_follow_311 : decode cX5_follow 311 = .ok (.getfield 98, 3) := by decide +kernel
theorem dX5_follow_314 : decode cX5_follow 314 = .ok (.ldc2_w 72, 3) := by decide +kernel
theorem dX5_follow_317 : decode cX5_follow 317 = .ok (.lload 6, 2) := by decide +kernel
theorem dX5_follow_319 : decode cX5_follow 319 = .ok (.lmul, 1) := by decide +kernel
theorem dX5_follow_320 : decode cX5_follow 320 = .ok (.ladd, 1) := by decide +kernel
theorem dX5_follow_321 : decode cX5_follow 321 = .ok (.putfield 98, 3) := by decide +kernel
theorem dX5_follow_324 : decode cX5_follow 324 = .ok (.iconst 0, 1) := by decide +kernel
theorem dX5_follow_325 : decode cX5_follow 325 = .ok (.istore 8, 2) := by decide +kernel
theorem dX5_follow_327 : decode cX5_follow 327 = .ok (.iload 8, 2) := by decide +kernel
theorem dX5_follow_329 : decode cX5_follow 329 = .ok (.sipush 2145, 3) := by decide +kernel
theorem dX5_follow_332 : decode cX5_follow 332 = .ok (.if_icmp .ge 23, 3) := by decide +kernel
theorem dX5_follow_335 : decode cX5_follow 335 = .ok (.aload_n 0, 1) := by decide +kernel
theorem dX5_follow_336 : decode cX5_follow 336 = .ok (.getfield 39, 3) := by decide +kernel
theorem dX5_follow_339 : decode cX5_follow 339 = .ok (.iload 8, 2) := by decide +kernel
theorem dX5_follow_341 : decode cX5_follow 341 = .ok (.aload_n 0, 1) := by decide +kernel
theorem dX5_follow_342 : decode cX5_follow 342 = .ok (.getfield 42, 3) := by decide +kernel
theorem dX5_follow_345 : decode cX5_follow 345 = .ok (.iload 8, 2) := by decide +kernel
theorem dX5_follow_347 : decode cX5_follow 347 = .ok (.laload, 1) := by decide +kernel
theorem dX5_follow_348 : decode cX5_follow 348 = .ok (.lastore, 1) := by decide +kernel
theorem dX5_follow_349 : decode cX5_follow 349 = .ok (.iinc 8 1, 3) := by decide +kernel
theorem dX5_follow_352 : decode cX5_follow 352 = .ok (.goto (-25), 3) := by decide +kernel
theorem dX5_follow_355 : decode cX5_follow 355 = .ok (.iinc 5 1, 3) := by decide +kernel
theorem dX5_follow_358 : decode cX5_follow 358 = .ok (.goto (-313), 3) := by decide +kernel
theorem dX5_follow_361 : decode cX5_follow 361 = .ok (.return_, 1) := by decide +kernel
theorem dX5_weightAt_0 : decode cX5_weightAt 0 = .ok (.lconst 0, 1) := by decide +kernel
theorem dX5_weightAt_1 : decode cX5_weightAt 1 = .ok (.lstore_n 2, 1) := by decide +kernel
theorem dX5_weightAt_2 : decode cX5_weightAt 2 = .ok (.iconst 0, 1) := by decide +kernel
theorem dX5_weightAt_3 : decode cX5_weightAt 3 = .ok (.istore 4, 2) := by decide +kernel
theorem dX5_weightAt_5 : decode cX5_weightAt 5 = .ok (.iload 4, 2) := by decide +kernel
theorem dX5_weightAt_7 : decode cX5_weightAt 7 = .ok (.bipush 65, 2) := by decide +kernel
theorem dX5_weightAt_9 : decode cX5_weightAt 9 = .ok (.if_icmp .ge 24, 3) := by decide +kernel
theorem dX5_weightAt_12 : decode cX5_weightAt 12 = .ok (.lload_n 2, 1) := by decide +kernel
theorem dX5_weightAt_13 : decode cX5_weightAt 13 = .ok (.aload_n 0, 1) := by decide +kernel
theorem dX5_weightAt_14 : decode cX5_weightAt 14 = .ok (.getfield 39, 3) := by decide +kernel
theorem dX5_weightAt_17 : decode cX5_weightAt 17 = .ok (.bipush 65, 2) := by decide +kernel
theorem dX5_weightAt_19 : decode cX5_weightAt 19 = .ok (.iload_n 1, 1) := by decide +kernel
theorem dX5_weightAt_20 : decode cX5_weightAt 20 = .ok (.imul, 1) := by decide +kernel
theorem dX5_weightAt_21 : decode cX5_weightAt 21 = .ok (.iload 4, 2) := by decide +kernel
theorem dX5_weightAt_23 : decode cX5_weightAt 23 = .ok (.iadd, 1) := by decide +kernel
theorem dX5_weightAt_24 : decode cX5_weightAt 24 = .ok (.laload, 1) := by decide +kernel
theorem dX5_weightAt_25 : decode cX5_weightAt 25 = .ok (.ladd, 1) := by decide +kernel
theorem dX5_weightAt_26 : decode cX5_weightAt 26 = .ok (.lstore_n 2, 1) := by decide +kernel
theorem dX5_weightAt_27 : decode cX5_weightAt 27 = .ok (.iinc 4 1, 3) := by decide +kernel
theorem dX5_weightAt_30 : decode cX5_weightAt 30 = .ok (.goto (-25), 3) := by decide +kernel
theorem dX5_weightAt_33 : decode cX5_weightAt 33 = .ok (.lload_n 2, 1) := by decide +kernel
theorem dX5_weightAt_34 : decode cX5_weightAt 34 = .ok (.lreturn, 1) := by decide +kernel
set_option maxRecDepth 20000 in
theorem ggX5_plan_X5_in : GoodIn wsX5_plan wsX5_in := goodIn_r _ [8] (by decide +kernel) (by decide +kernel)
set_option maxRecDepth 20000 in
theorem gX5_plan_X5_in : GoodIn wsX5_plan (va_wsS RX5 48 yX5_in wsX5_in) := goodIn_app (goodIn_of _ (by decide +kernel)) ggX5_plan_X5_in
set_option maxRecDepth 20000 in
theorem ggX5_plan_X5_isGame : GoodIn wsX5_plan wsX5_isGame := goodIn_r _ [12, 13, 5, 6, 7, 8, 54, 55, 56, 57, 58, 59, 60, 61, 62, 63, 64, 65, 66, 67] (by decide +kernel) (by decide +kernel)
set_option maxRecDepth 20000 in
theorem gX5_plan_X5_isGame : GoodIn wsX5_plan (wsV RX5 52 RX5 yX5_isGame wsX5_isGame) := goodIn_app (goodIn_of _ (by decide +kernel)) ggX5_plan_X5_isGame
set_option maxRecDepth 20000 in
theorem ggX5_plan_X5_isPurse : GoodIn wsX5_plan wsX5_isPurse := goodIn_r _ [17, 4, 5, 6, 7, 8, 54, 55, 56, 57, 58, 59, 60, 61, 62, 63, 64, 65, 66, 67] (by decide +kernel) (by decide +kernel)
set_option maxRecDepth 20000 in
theorem gX5_plan_X5_isPurse : GoodIn wsX5_plan (wsV RX5 81 RX5 yX5_isPurse wsX5_isPurse) := goodIn_app (goodIn_of _ (by decide +kernel)) ggX5_plan_X5_isPurse
set_option maxRecDepth 20000 in
theorem ggX5_plan_X5_follow : GoodIn wsX5_plan wsX5_follow := goodIn_r _ [21, 22, 3, 23, 24, 4, 25, 26, 27, 28, 7, 29, 30, 31, 32, 33, 34, 35, 36, 37, 38, 39, 40, 41, 42, 43, 44, 45, 46, 47, 48, 49, 54, 55, 56, 57, 58, 59, 60, 61, 62, 63, 64, 65, 66, 67] (by decide +kernel) (by decide +kernel)
set_option maxRecDepth 20000 in
theorem gX5_plan_X5_follow : GoodIn wsX5_plan (wsV RX5 101 RX5 yX5_follow wsX5_follow) := goodIn_app (goodIn_of _ (by decide +kernel)) ggX5_plan_X5_follow
set_option maxRecDepth 20000 in
theorem ggX5_plan_X5_weightAt : GoodIn wsX5_plan wsX5_weightAt := goodIn_r _ [53, 22, 54, 55, 56, 57, 58, 59, 60, 61, 62, 63, 64, 65, 66, 67] (by decide +kernel) (by decide +kernel)
set_option maxRecDepth 20000 in
theorem gX5_plan_X5_weightAt : GoodIn wsX5_plan (wsV RX5 105 RX5 yX5_weightAt wsX5_weightAt) := goodIn_app (goodIn_of _ (by decide +kernel)) ggX5_plan_X5_weightAt
theorem dX5_plan_0 : decode cX5_plan 0 = .ok (.iload_n 1, 1) := by decide +kernel
theorem dX5_plan_1 : decode cX5_plan 1 = .ok (.iconst 0, 1) := by decide +kernel
theorem dX5_plan_2 : decode cX5_plan 2 = .ok (.iconst 3, 1) := by decide +kernel
theorem dX5_plan_3 : decode cX5_plan 3 = .ok (.invokestatic 48, 3) := by decide +kernel
theorem dX5_plan_6 : decode cX5_plan 6 = .ok (.ifCond .eq 42, 3) := by decide +kernel
theorem dX5_plan_9 : decode cX5_plan 9 = .ok (.aload_n 0, 1) := by decide +kernel
theorem dX5_plan_10 : decode cX5_plan 10 = .ok (.iload_n 2, 1) := by decide +kernel
theorem dX5_plan_11 : decode cX5_plan 11 = .ok (.invokevirtual 52, 3) := by decide +kernel
theorem dX5_plan_14 : decode cX5_plan 14 = .ok (.ifCond .eq 34, 3) := by decide +kernel
theorem dX5_plan_17 : decode cX5_plan 17 = .ok (.aload_n 0, 1) := by decide +kernel
theorem dX5_plan_18 : decode cX5_plan 18 = .ok (.iload_n 3, 1) := by decide +kernel
theorem dX5_plan_19 : decode cX5_plan 19 = .ok (.invokevirtual 81, 3) := by decide +kernel
theorem dX5_plan_22 : decode cX5_plan 22 = .ok (.ifCond .eq 26, 3) := by decide +kernel
theorem dX5_plan_25 : decode cX5_plan 25 = .ok (.iload 4, 2) := by decide +kernel
theorem dX5_plan_27 : decode cX5_plan 27 = .ok (.iconst 0, 1) := by decide +kernel
theorem dX5_plan_28 : decode cX5_plan 28 = .ok (.aload_n 0, 1) := by decide +kernel
theorem dX5_plan_29 : decode cX5_plan 29 = .ok (.getfield 13, 3) := by decide +kernel
theorem dX5_plan_32 : decode cX5_plan 32 = .ok (.invokestatic 48, 3) := by decide +kernel
theorem dX5_plan_35 : decode cX5_plan 35 = .ok (.ifCond .eq 13, 3) := by decide +kernel
theorem dX5_plan_38 : decode cX5_plan 38 = .ok (.iload 5, 2) := by decide +kernel
theorem dX5_plan_40 : decode cX5_plan 40 = .ok (.iconst 0, 1) := by decide +kernel
theorem dX5_plan_41 : decode cX5_plan 41 = .ok (.iconst 3, 1) := by decide +kernel
theorem dX5_plan_42 : decode cX5_plan 42 = .ok (.invokestatic 48, 3) := by decide +kernel
theorem dX5_plan_45 : decode cX5_plan 45 = .ok (.ifCond .ne 7, 3) := by decide +kernel
theorem dX5_plan_48 : decode cX5_plan 48 = .ok (.ldc2_w 84, 3) := by decide +kernel
theorem dX5_plan_51 : decode cX5_plan 51 = .ok (.lreturn, 1) := by decide +kernel
theorem dX5_plan_52 : decode cX5_plan 52 = .ok (.aload_n 0, 1) := by decide +kernel
theorem dX5_plan_53 : decode cX5_plan 53 = .ok (.iload_n 1, 1) := by decide +kernel
theorem dX5_plan_54 : decode cX5_plan 54 = .ok (.iload_n 2, 1) := by decide +kernel
theorem dX5_plan_55 : decode cX5_plan 55 = .ok (.iload_n 3, 1) := by decide +kernel
theorem dX5_plan_56 : decode cX5_plan 56 = .ok (.iload 4, 2) := by decide +kernel
theorem dX5_plan_58 : decode cX5_plan 58 = .ok (.invokevirtual 101, 3) := by decide +kernel
theorem dX5_plan_61 : decode cX5_plan 61 = .ok (.iload 5, 2) := by decide +kernel
theorem dX5_plan_63 : decode cX5_plan 63 = .ok (.iconst 3, 1) := by decide +kernel
theorem dX5_plan_64 : decode cX5_plan 64 = .ok (.if_icmp .ne 8, 3) := by decide +kernel
theorem dX5_plan_67 : decode cX5_plan 67 = .ok (.aload_n 0, 1) := by decide +kernel
theorem dX5_plan_68 : decode cX5_plan 68 = .ok (.getfield 98, 3) := by decide +kernel
theorem dX5_plan_71 : decode cX5_plan 71 = .ok (.lreturn, 1) := by decide +kernel
theorem dX5_plan_72 : decode cX5_plan 72 = .ok (.iload 5, 2) := by decide +kernel
theorem dX5_plan_74 : decode cX5_plan 74 = .ok (.iconst 2, 1) := by decide +kernel
theorem dX5_plan_75 : decode cX5_plan 75 = .ok (.if_icmp .ge 21, 3) := by decide +kernel
theorem dX5_plan_78 : decode cX5_plan 78 = .ok (.aload_n 0, 1) := by decide +kernel
theorem dX5_plan_79 : decode cX5_plan 79 = .ok (.iload 5, 2) := by decide +kernel
theorem dX5_plan_81 : decode cX5_plan 81 = .ok (.ifCond .ne 10, 3) := by decide +kernel
theorem dX5_plan_84 : decode cX5_plan 84 = .ok (.aload_n 0, 1) := by decide +kernel
theorem dX5_plan_85 : decode cX5_plan 85 = .ok (.getfield 7, 3) := by decide +kernel
theorem dX5_plan_88 : decode cX5_plan 88 = .ok (.goto 4, 3) := by decide +kernel
theorem dX5_plan_91 : decode cX5_plan 91 = .ok (.iconst 0, 1) := by decide +kernel
theorem dX5_plan_92 : decode cX5_plan 92 = .ok (.invokevirtual 105, 3) := by decide +kernel
theorem dX5_plan_95 : decode cX5_plan 95 = .ok (.lreturn, 1) := by decide +kernel
theorem dX5_plan_96 : decode cX5_plan 96 = .ok (.lconst 0, 1) := by decide +kernel
theorem dX5_plan_97 : decode cX5_plan 97 = .ok (.lstore 6, 2) := by decide +kernel
theorem dX5_plan_99 : decode cX5_plan 99 = .ok (.iconst 0, 1) := by decide +kernel
theorem dX5_plan_100 : decode cX5_plan 100 = .ok (.istore 8, 2) := by decide +kernel
theorem dX5_plan_102 : decode cX5_plan 102 = .ok (.iload 8, 2) := by decide +kernel
theorem dX5_plan_104 : decode cX5_plan 104 = .ok (.aload_n 0, 1) := by decide +kernel
theorem dX5_plan_105 : decode cX5_plan 105 = .ok (.getfield 7, 3) := by decide +kernel
theorem dX5_plan_108 : decode cX5_plan 108 = .ok (.if_icmp .gt 24, 3) := by decide +kernel
theorem dX5_plan_111 : decode cX5_plan 111 = .ok (.lload 6, 2) := by decide +kernel
theorem dX5_plan_113 : decode cX5_plan 113 = .ok (.iload 8, 2) := by decide +kernel
theorem dX5_plan_115 : decode cX5_plan 115 = .ok (.i2l, 1) := by decide +kernel
theorem dX5_plan_116 : decode cX5_plan 116 = .ok (.aload_n 0, 1) := by decide +kernel
theorem dX5_plan_117 : decode cX5_plan 117 = .ok (.iload 8, 2) := by decide +kernel
theorem dX5_plan_119 : decode cX5_plan 119 = .ok (.invokevirtual 105, 3) := by decide +kernel
theorem dX5_plan_122 : decode cX5_plan 122 = .ok (.lmul, 1) := by decide +kernel
theorem dX5_plan_123 : decode cX5_plan 123 = .ok (.ladd, 1) := by decide +kernel
theorem dX5_plan_124 : decode cX5_plan 124 = .ok (.lstore 6, 2) := by decide +kernel
theorem dX5_plan_126 : decode cX5_plan 126 = .ok (.iinc 8 1, 3) := by decide +kernel
theorem dX5_plan_129 : decode cX5_plan 129 = .ok (.goto (-27), 3) := by decide +kernel
theorem dX5_plan_132 : decode cX5_plan 132 = .ok (.lload 6, 2) := by decide +kernel
theorem dX5_plan_134 : decode cX5_plan 134 = .ok (.lreturn, 1) := by decide +kernel
set_option maxRecDepth 20000 in
theorem ggX5_bold_X5_isGame : GoodIn wsX5_bold wsX5_isGame := goodIn_r _ [8, 9, 10, 11, 7, 12, 62, 63, 64, 65, 66, 67, 68, 69, 70, 71, 72, 73, 74, 75] (by decide +kernel) (by decide +kernel)
set_option maxRecDepth 20000 in
theorem gX5_bold_X5_isGame : GoodIn wsX5_bold (wsV RX5 52 RX5 yX5_isGame wsX5_isGame) := goodIn_app (goodIn_of _ (by decide +kernel)) ggX5_bold_X5_isGame
set_option maxRecDepth 20000 in
theorem ggX5_bold_X5_isPurse : GoodIn wsX5_bold wsX5_isPurse := goodIn_r _ [16, 2, 10, 11, 7, 12, 62, 63, 64, 65, 66, 67, 68, 69, 70, 71, 72, 73, 74, 75] (by decide +kernel) (by decide +kernel)
set_option maxRecDepth 20000 in
theorem gX5_bold_X5_isPurse : GoodIn wsX5_bold (wsV RX5 81 RX5 yX5_isPurse wsX5_isPurse) := goodIn_app (goodIn_of _ (by decide +kernel)) ggX5_bold_X5_isPurse
set_option maxRecDepth 20000 in
theorem ggX5_bold_X5_in : GoodIn wsX5_bold wsX5_in := goodIn_r _ [12] (by decide +kernel) (by decide +kernel)
set_option maxRecDepth 20000 in
theorem gX5_bold_X5_in : GoodIn wsX5_bold (va_wsS RX5 48 yX5_in wsX5_in) := goodIn_app (goodIn_of _ (by decide +kernel)) ggX5_bold_X5_in
set_option maxRecDepth 20000 in
theorem ggX5_bold_X5_follow : GoodIn wsX5_bold wsX5_follow := goodIn_r _ [20, 21, 22, 23, 24, 2, 25, 26, 27, 28, 7, 29, 30, 31, 32, 33, 34, 35, 36, 37, 38, 39, 40, 41, 42, 43, 44, 45, 46, 47, 48, 49, 62, 63, 64, 65, 66, 67, 68, 69, 70, 71, 72, 73, 74, 75] (by decide +kernel) (by decide +kernel)
set_option maxRecDepth 20000 in
theorem gX5_bold_X5_follow : GoodIn wsX5_bold (wsV RX5 101 RX5 yX5_follow wsX5_follow) := goodIn_app (goodIn_of _ (by decide +kernel)) ggX5_bold_X5_follow
set_option maxRecDepth 20000 in
theorem ggX5_bold_X5_weightAt : GoodIn wsX5_bold wsX5_weightAt := goodIn_r _ [53, 21, 62, 63, 64, 65, 66, 67, 68, 69, 70, 71, 72, 73, 74, 75] (by decide +kernel) (by decide +kernel)
set_option maxRecDepth 20000 in
theorem gX5_bold_X5_weightAt : GoodIn wsX5_bold (wsV RX5 105 RX5 yX5_weightAt wsX5_weightAt) := goodIn_app (goodIn_of _ (by decide +kernel)) ggX5_bold_X5_weightAt
set_option maxRecDepth 20000 in
theorem ggX5_bold_X5_work : GoodIn wsX5_bold wsX5_work := goodIn_r _ [57, 2, 3, 24, 26, 27, 28, 7, 29, 30, 58, 59, 60, 61, 25, 46, 47, 48, 49, 39, 40, 41, 42, 43, 44, 45, 62, 63, 64, 65, 66, 67, 68, 69, 70, 71, 72, 73, 74, 75] (by decide +kernel) (by decide +kernel)
set_option maxRecDepth 20000 in
theorem gX5_bold_X5_work : GoodIn wsX5_bold (wsV RX5 88 RX5 yX5_work wsX5_work) := goodIn_app (goodIn_of _ (by decide +kernel)) ggX5_bold_X5_work
theorem dX5_bold_0 : decode cX5_bold 0 = .ok (.aload_n 0, 1) := by decide +kernel
theorem dX5_bold_1 : decode cX5_bold 1 = .ok (.iload_n 1, 1) := by decide +kernel
theorem dX5_bold_2 : decode cX5_bold 2 = .ok (.invokevirtual 52, 3) := by decide +kernel
theorem dX5_bold_5 : decode cX5_bold 5 = .ok (.ifCond .eq 23, 3) := by decide +kernel
theorem dX5_bold_8 : decode cX5_bold 8 = .ok (.aload_n 0, 1) := by decide +kernel
theorem dX5_bold_9 : decode cX5_bold 9 = .ok (.iload_n 2, 1) := by decide +kernel
theorem dX5_bold_10 : decode cX5_bold 10 = .ok (.invokevirtual 81, 3) := by decide +kernel
theorem dX5_bold_13 : decode cX5_bold 13 = .ok (.ifCond .eq 15, 3) := by decide +kernel
theorem dX5_bold_16 : decode cX5_bold 16 = .ok (.iload_n 3, 1) := by decide +kernel
theorem dX5_bold_17 : decode cX5_bold 17 = .ok (.iconst 0, 1) := by decide +kernel
theorem dX5_bold_18 : decode cX5_bold 18 = .ok (.aload_n 0, 1) := by decide +kernel
theorem dX5_bold_19 : decode cX5_bold 19 = .ok (.getfield 13, 3) := by decide +kernel
theorem dX5_bold_22 : decode cX5_bold 22 = .ok (.invokestatic 48, 3) := by decide +kernel
theorem dX5_bold_25 : decode cX5_bold 25 = .ok (.ifCond .ne 5, 3) := by decide +kernel
theorem dX5_bold_28 : decode cX5_bold 28 = .ok (.iconst (-1), 1) := by decide +kernel
theorem dX5_bold_29 : decode cX5_bold 29 = .ok (.ireturn, 1) := by decide +kernel
theorem dX5_bold_30 : decode cX5_bold 30 = .ok (.aload_n 0, 1) := by decide +kernel
theorem dX5_bold_31 : decode cX5_bold 31 = .ok (.iconst 0, 1) := by decide +kernel
theorem dX5_bold_32 : decode cX5_bold 32 = .ok (.iload_n 1, 1) := by decide +kernel
theorem dX5_bold_33 : decode cX5_bold 33 = .ok (.iload_n 2, 1) := by decide +kernel
theorem dX5_bold_34 : decode cX5_bold 34 = .ok (.iload_n 3, 1) := by decide +kernel
theorem dX5_bold_35 : decode cX5_bold 35 = .ok (.invokevirtual 101, 3) := by decide +kernel
theorem dX5_bold_38 : decode cX5_bold 38 = .ok (.aload_n 0, 1) := by decide +kernel
theorem dX5_bold_39 : decode cX5_bold 39 = .ok (.aload_n 0, 1) := by decide +kernel
theorem dX5_bold_40 : decode cX5_bold 40 = .ok (.getfield 7, 3) := by decide +kernel
theorem dX5_bold_43 : decode cX5_bold 43 = .ok (.invokevirtual 105, 3) := by decide +kernel
theorem dX5_bold_46 : decode cX5_bold 46 = .ok (.lstore 4, 2) := by decide +kernel
theorem dX5_bold_48 : decode cX5_bold 48 = .ok (.aload_n 0, 1) := by decide +kernel
theorem dX5_bold_49 : decode cX5_bold 49 = .ok (.iload_n 3, 1) := by decide +kernel
theorem dX5_bold_50 : decode cX5_bold 50 = .ok (.iconst 0, 1) := by decide +kernel
theorem dX5_bold_51 : decode cX5_bold 51 = .ok (.iload_n 1, 1) := by decide +kernel
theorem dX5_bold_52 : decode cX5_bold 52 = .ok (.iload_n 1, 1) := by decide +kernel
theorem dX5_bold_53 : decode cX5_bold 53 = .ok (.invokevirtual 88, 3) := by decide +kernel
theorem dX5_bold_56 : decode cX5_bold 56 = .ok (.aload_n 0, 1) := by decide +kernel
theorem dX5_bold_57 : decode cX5_bold 57 = .ok (.getfield 35, 3) := by decide +kernel
theorem dX5_bold_60 : decode cX5_bold 60 = .ok (.bipush 33, 2) := by decide +kernel
theorem dX5_bold_62 : decode cX5_bold 62 = .ok (.iload_n 3, 1) := by decide +kernel
theorem dX5_bold_63 : decode cX5_bold 63 = .ok (.imul, 1) := by decide +kernel
theorem dX5_bold_64 : decode cX5_bold 64 = .ok (.iload_n 2, 1) := by decide +kernel
theorem dX5_bold_65 : decode cX5_bold 65 = .ok (.iadd, 1) := by decide +kernel
theorem dX5_bold_66 : decode cX5_bold 66 = .ok (.laload, 1) := by decide +kernel
theorem dX5_bold_67 : decode cX5_bold 67 = .ok (.lload 4, 2) := by decide +kernel
theorem dX5_bold_69 : decode cX5_bold 69 = .ok (.lcmp, 1) := by decide +kernel
theorem dX5_bold_70 : decode cX5_bold 70 = .ok (.ifCond .ne 7, 3) := by decide +kernel
theorem dX5_bold_73 : decode cX5_bold 73 = .ok (.iconst 1, 1) := by decide +kernel
theorem dX5_bold_74 : decode cX5_bold 74 = .ok (.goto 4, 3) := by decide +kernel
theorem dX5_bold_77 : decode cX5_bold 77 = .ok (.iconst 0, 1) := by decide +kernel
theorem dX5_bold_78 : decode cX5_bold 78 = .ok (.ireturn, 1) := by decide +kernel
theorem dX5_count_0 : decode cX5_count 0 = .ok (.iload_n 1, 1) := by decide +kernel
theorem dX5_count_1 : decode cX5_count 1 = .ok (.ifCond .ne 10, 3) := by decide +kernel
theorem dX5_count_4 : decode cX5_count 4 = .ok (.aload_n 0, 1) := by decide +kernel
theorem dX5_count_5 : decode cX5_count 5 = .ok (.getfield 7, 3) := by decide +kernel
theorem dX5_count_8 : decode cX5_count 8 = .ok (.goto 28, 3) := by decide +kernel
theorem dX5_count_11 : decode cX5_count 11 = .ok (.iload_n 1, 1) := by decide +kernel
theorem dX5_count_12 : decode cX5_count 12 = .ok (.iconst 1, 1) := by decide +kernel
theorem dX5_count_13 : decode cX5_count 13 = .ok (.if_icmp .ne 10, 3) := by decide +kernel
theorem dX5_count_16 : decode cX5_count 16 = .ok (.aload_n 0, 1) := by decide +kernel
theorem dX5_count_17 : decode cX5_count 17 = .ok (.getfield 13, 3) := by decide +kernel
theorem dX5_count_20 : decode cX5_count 20 = .ok (.goto 16, 3) := by decide +kernel
theorem dX5_count_23 : decode cX5_count 23 = .ok (.iload_n 1, 1) := by decide +kernel
theorem dX5_count_24 : decode cX5_count 24 = .ok (.iconst 2, 1) := by decide +kernel
theorem dX5_count_25 : decode cX5_count 25 = .ok (.if_icmp .ne 10, 3) := by decide +kernel
theorem dX5_count_28 : decode cX5_count 28 = .ok (.aload_n 0, 1) := by decide +kernel
theorem dX5_count_29 : decode cX5_count 29 = .ok (.getfield 45, 3) := by decide +kernel
theorem dX5_count_32 : decode cX5_count 32 = .ok (.goto 4, 3) := by decide +kernel
theorem dX5_count_35 : decode cX5_count 35 = .ok (.iconst (-1), 1) := by decide +kernel
theorem dX5_count_36 : decode cX5_count 36 = .ok (.ireturn, 1) := by decide +kernel
theorem dX5_trace_0 : decode cX5_trace 0 = .ok (.aload_n 0, 1) := by decide +kernel
theorem dX5_trace_1 : decode cX5_trace 1 = .ok (.getfield 56, 3) := by decide +kernel
theorem dX5_trace_4 : decode cX5_trace 4 = .ok (.lreturn, 1) := by decide +kernel
theorem dJ9_max_f86c9_0 : decode cJ9_max_f86c9 0 = .ok (.lload_n 0, 1) := by decide +kernel
theorem dJ9_max_f86c9_1 : decode cJ9_max_f86c9 1 = .ok (.lload_n 2, 1) := by decide +kernel
theorem dJ9_max_f86c9_2 : decode cJ9_max_f86c9 2 = .ok (.lcmp, 1) := by decide +kernel
theorem dJ9_max_f86c9_3 : decode cJ9_max_f86c9 3 = .ok (.ifCond .lt 7, 3) := by decide +kernel
theorem dJ9_max_f86c9_6 : decode cJ9_max_f86c9 6 = .ok (.lload_n 0, 1) := by decide +kernel
theorem dJ9_max_f86c9_7 : decode cJ9_max_f86c9 7 = .ok (.goto 4, 3) := by decide +kernel
theorem dJ9_max_f86c9_10 : decode cJ9_max_f86c9 10 = .ok (.lload_n 2, 1) := by decide +kernel
theorem dJ9_max_f86c9_11 : decode cJ9_max_f86c9 11 = .ok (.lreturn, 1) := by decide +kernel
theorem dJ9_min_7cf53_0 : decode cJ9_min_7cf53 0 = .ok (.iload_n 0, 1) := by decide +kernel
theorem dJ9_min_7cf53_1 : decode cJ9_min_7cf53 1 = .ok (.iload_n 1, 1) := by decide +kernel
theorem dJ9_min_7cf53_2 : decode cJ9_min_7cf53 2 = .ok (.if_icmp .gt 7, 3) := by decide +kernel
theorem dJ9_min_7cf53_5 : decode cJ9_min_7cf53 5 = .ok (.iload_n 0, 1) := by decide +kernel
theorem dJ9_min_7cf53_6 : decode cJ9_min_7cf53 6 = .ok (.goto 4, 3) := by decide +kernel
theorem dJ9_min_7cf53_9 : decode cJ9_min_7cf53 9 = .ok (.iload_n 1, 1) := by decide +kernel
theorem dJ9_min_7cf53_10 : decode cJ9_min_7cf53 10 = .ok (.ireturn, 1) := by decide +kernel
