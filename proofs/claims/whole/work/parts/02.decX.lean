theorem dX0_init_0 : decode cX0_init 0 = .ok (.aload_n 0, 1) := by decide +kernel
theorem dX0_init_1 : decode cX0_init 1 = .ok (.invokespecial 3, 3) := by decide +kernel
theorem dX0_init_4 : decode cX0_init 4 = .ok (.aload_n 0, 1) := by decide +kernel
theorem dX0_init_5 : decode cX0_init 5 = .ok (.bipush 13, 2) := by decide +kernel
theorem dX0_init_7 : decode cX0_init 7 = .ok (.bipush 33, 2) := by decide +kernel
theorem dX0_init_9 : decode cX0_init 9 = .ok (.multianewarray 9 2, 4) := by decide +kernel
theorem dX0_init_13 : decode cX0_init 13 = .ok (.putfield 11, 3) := by decide +kernel
theorem dX0_init_16 : decode cX0_init 16 = .ok (.aload_n 0, 1) := by decide +kernel
theorem dX0_init_17 : decode cX0_init 17 = .ok (.iconst 0, 1) := by decide +kernel
theorem dX0_init_18 : decode cX0_init 18 = .ok (.putfield 16, 3) := by decide +kernel
theorem dX0_init_21 : decode cX0_init 21 = .ok (.aload_n 0, 1) := by decide +kernel
theorem dX0_init_22 : decode cX0_init 22 = .ok (.iconst 0, 1) := by decide +kernel
theorem dX0_init_23 : decode cX0_init 23 = .ok (.putfield 20, 3) := by decide +kernel
theorem dX0_init_26 : decode cX0_init 26 = .ok (.aload_n 0, 1) := by decide +kernel
theorem dX0_init_27 : decode cX0_init 27 = .ok (.iconst 0, 1) := by decide +kernel
theorem dX0_init_28 : decode cX0_init 28 = .ok (.putfield 23, 3) := by decide +kernel
theorem dX0_init_31 : decode cX0_init 31 = .ok (.aload_n 0, 1) := by decide +kernel
theorem dX0_init_32 : decode cX0_init 32 = .ok (.iload_n 1, 1) := by decide +kernel
theorem dX0_init_33 : decode cX0_init 33 = .ok (.putfield 26, 3) := by decide +kernel
theorem dX0_init_36 : decode cX0_init 36 = .ok (.return_, 1) := by decide +kernel
theorem dX0_forget_0 : decode cX0_forget 0 = .ok (.aload_n 0, 1) := by decide +kernel
theorem dX0_forget_1 : decode cX0_forget 1 = .ok (.iconst 0, 1) := by decide +kernel
theorem dX0_forget_2 : decode cX0_forget 2 = .ok (.putfield 23, 3) := by decide +kernel
theorem dX0_forget_5 : decode cX0_forget 5 = .ok (.return_, 1) := by decide +kernel
theorem dX0_cover_0 : decode cX0_cover 0 = .ok (.iload_n 1, 1) := by decide +kernel
theorem dX0_cover_1 : decode cX0_cover 1 = .ok (.aload_n 0, 1) := by decide +kernel
theorem dX0_cover_2 : decode cX0_cover 2 = .ok (.getfield 16, 3) := by decide +kernel
theorem dX0_cover_5 : decode cX0_cover 5 = .ok (.if_icmp .ne 11, 3) := by decide +kernel
theorem dX0_cover_8 : decode cX0_cover 8 = .ok (.iload_n 2, 1) := by decide +kernel
theorem dX0_cover_9 : decode cX0_cover 9 = .ok (.aload_n 0, 1) := by decide +kernel
theorem dX0_cover_10 : decode cX0_cover 10 = .ok (.getfield 20, 3) := by decide +kernel
theorem dX0_cover_13 : decode cX0_cover 13 = .ok (.if_icmp .eq 18, 3) := by decide +kernel
theorem dX0_cover_16 : decode cX0_cover 16 = .ok (.aload_n 0, 1) := by decide +kernel
theorem dX0_cover_17 : decode cX0_cover 17 = .ok (.iload_n 1, 1) := by decide +kernel
theorem dX0_cover_18 : decode cX0_cover 18 = .ok (.putfield 16, 3) := by decide +kernel
theorem dX0_cover_21 : decode cX0_cover 21 = .ok (.aload_n 0, 1) := by decide +kernel
theorem dX0_cover_22 : decode cX0_cover 22 = .ok (.iload_n 2, 1) := by decide +kernel
theorem dX0_cover_23 : decode cX0_cover 23 = .ok (.putfield 20, 3) := by decide +kernel
theorem dX0_cover_26 : decode cX0_cover 26 = .ok (.aload_n 0, 1) := by decide +kernel
theorem dX0_cover_27 : decode cX0_cover 27 = .ok (.iconst 0, 1) := by decide +kernel
theorem dX0_cover_28 : decode cX0_cover 28 = .ok (.putfield 23, 3) := by decide +kernel
theorem dX0_cover_31 : decode cX0_cover 31 = .ok (.return_, 1) := by decide +kernel
theorem dX1_init_0 : decode cX1_init 0 = .ok (.aload_n 0, 1) := by decide +kernel
theorem dX1_init_1 : decode cX1_init 1 = .ok (.invokespecial 3, 3) := by decide +kernel
theorem dX1_init_4 : decode cX1_init 4 = .ok (.aload_n 0, 1) := by decide +kernel
theorem dX1_init_5 : decode cX1_init 5 = .ok (.bipush 33, 2) := by decide +kernel
theorem dX1_init_7 : decode cX1_init 7 = .ok (.newarray .int, 2) := by decide +kernel
theorem dX1_init_9 : decode cX1_init 9 = .ok (.putfield 9, 3) := by decide +kernel
theorem dX1_init_12 : decode cX1_init 12 = .ok (.aload_n 0, 1) := by decide +kernel
theorem dX1_init_13 : decode cX1_init 13 = .ok (.iload_n 1, 1) := by decide +kernel
theorem dX1_init_14 : decode cX1_init 14 = .ok (.putfield 15, 3) := by decide +kernel
theorem dX1_init_17 : decode cX1_init 17 = .ok (.aload_n 0, 1) := by decide +kernel
theorem dX1_init_18 : decode cX1_init 18 = .ok (.iload_n 2, 1) := by decide +kernel
theorem dX1_init_19 : decode cX1_init 19 = .ok (.putfield 19, 3) := by decide +kernel
theorem dX1_init_22 : decode cX1_init 22 = .ok (.return_, 1) := by decide +kernel
set_option maxRecDepth 20000 in
theorem ggX1_keepGains_X1_gain : GoodIn wsX1_keepGains wsX1_gain := goodIn_r _ [6] (by decide +kernel) (by decide +kernel)
set_option maxRecDepth 20000 in
theorem gX1_keepGains_X1_gain : GoodIn wsX1_keepGains (wsV RX1 22 RX1 yX1_gain wsX1_gain) := goodIn_app (goodIn_of _ (by decide +kernel)) ggX1_keepGains_X1_gain
set_option maxRecDepth 20000 in
theorem ggX1_keepGains_X2_gain : GoodIn wsX1_keepGains wsX2_gain := goodIn_r _ [13, 14, 15, 8, 16, 3, 5, 6, 28, 29, 30, 31, 32, 33, 34, 35, 36] (by decide +kernel) (by decide +kernel)
set_option maxRecDepth 20000 in
theorem gX1_keepGains_X2_gain_u22X2 : GoodIn wsX1_keepGains (va_wsO RX1 22 RX2 "StakeHouse$EvenGame" ⟨"StakeHouse$EvenGame", "gain", "(I)I"⟩ yX2_gain wsX2_gain) := goodIn_app (goodIn_of _ (by decide +kernel)) ggX1_keepGains_X2_gain
set_option maxRecDepth 20000 in
theorem ggX1_keepGains_X3_gain : GoodIn wsX1_keepGains wsX3_gain := goodIn_r _ [20, 21, 22, 23, 24, 11, 12, 13, 14, 15, 8, 16, 3, 5, 6, 32, 33, 34, 35, 36, 28, 29, 30, 31] (by decide +kernel) (by decide +kernel)
set_option maxRecDepth 20000 in
theorem gX1_keepGains_X3_gain_u22X3 : GoodIn wsX1_keepGains (va_wsO RX1 22 RX3 "StakeHouse$EvenGame" ⟨"StakeHouse$EvenGame", "gain", "(I)I"⟩ yX3_gain wsX3_gain) := goodIn_app (goodIn_of _ (by decide +kernel)) ggX1_keepGains_X3_gain
theorem dX1_keepGains_0 : decode cX1_keepGains 0 = .ok (.iconst 1, 1) := by decide +kernel
theorem dX1_keepGains_1 : decode cX1_keepGains 1 = .ok (.istore_n 1, 1) := by decide +kernel
theorem dX1_keepGains_2 : decode cX1_keepGains 2 = .ok (.iload_n 1, 1) := by decide +kernel
theorem dX1_keepGains_3 : decode cX1_keepGains 3 = .ok (.bipush 32, 2) := by decide +kernel
theorem dX1_keepGains_5 : decode cX1_keepGains 5 = .ok (.if_icmp .gt 20, 3) := by decide +kernel
theorem dX1_keepGains_8 : decode cX1_keepGains 8 = .ok (.aload_n 0, 1) := by decide +kernel
theorem dX1_keepGains_9 : decode cX1_keepGains 9 = .ok (.getfield 9, 3) := by decide +kernel
theorem dX1_keepGains_12 : decode cX1_keepGains 12 = .ok (.iload_n 1, 1) := by decide +kernel
theorem dX1_keepGains_13 : decode cX1_keepGains 13 = .ok (.aload_n 0, 1) := by decide +kernel
theorem dX1_keepGains_14 : decode cX1_keepGains 14 = .ok (.iload_n 1, 1) := by decide +kernel
theorem dX1_keepGains_15 : decode cX1_keepGains 15 = .ok (.invokevirtual 22, 3) := by decide +kernel
theorem dX1_keepGains_18 : decode cX1_keepGains 18 = .ok (.iastore, 1) := by decide +kernel
theorem dX1_keepGains_19 : decode cX1_keepGains 19 = .ok (.iinc 1 1, 3) := by decide +kernel
theorem dX1_keepGains_22 : decode cX1_keepGains 22 = .ok (.goto (-20), 3) := by decide +kernel
theorem dX1_keepGains_25 : decode cX1_keepGains 25 = .ok (.return_, 1) := by decide +kernel
theorem dX1_gain_0 : decode cX1_gain 0 = .ok (.iload_n 1, 1) := by decide +kernel
theorem dX1_gain_1 : decode cX1_gain 1 = .ok (.ireturn, 1) := by decide +kernel
theorem dX1_mark_0 : decode cX1_mark 0 = .ok (.iconst 1, 1) := by decide +kernel
theorem dX1_mark_1 : decode cX1_mark 1 = .ok (.ireturn, 1) := by decide +kernel
set_option maxRecDepth 20000 in
theorem ggX2_init_X1_init : GoodIn wsX2_init wsX1_init := goodIn_r _ [5, 6, 7, 8, 9, 10, 11, 12, 22, 23, 24, 13, 14, 15, 16, 17, 18, 19, 20, 21] (by decide +kernel) (by decide +kernel)
set_option maxRecDepth 20000 in
theorem gX2_init_X1_init : GoodIn wsX2_init (wsX1_init) := ggX2_init_X1_init
theorem dX2_init_0 : decode cX2_init 0 = .ok (.aload_n 0, 1) := by decide +kernel
theorem dX2_init_1 : decode cX2_init 1 = .ok (.iload_n 1, 1) := by decide +kernel
theorem dX2_init_2 : decode cX2_init 2 = .ok (.iload_n 2, 1) := by decide +kernel
theorem dX2_init_3 : decode cX2_init 3 = .ok (.invokespecial 1, 3) := by decide +kernel
theorem dX2_init_6 : decode cX2_init 6 = .ok (.aload_n 0, 1) := by decide +kernel
theorem dX2_init_7 : decode cX2_init 7 = .ok (.iload_n 3, 1) := by decide +kernel
theorem dX2_init_8 : decode cX2_init 8 = .ok (.putfield 7, 3) := by decide +kernel
theorem dX2_init_11 : decode cX2_init 11 = .ok (.return_, 1) := by decide +kernel
set_option maxRecDepth 20000 in
theorem ggX2_gain_X1_gain : GoodIn wsX2_gain wsX1_gain := goodIn_r _ [7] (by decide +kernel) (by decide +kernel)
set_option maxRecDepth 20000 in
theorem gX2_gain_X1_gain_s13 : GoodIn wsX2_gain (va_wsSU RX2 13 yX1_gain wsX1_gain) := goodIn_app (goodIn_of _ (by decide +kernel)) ggX2_gain_X1_gain
theorem dX2_gain_0 : decode cX2_gain 0 = .ok (.aload_n 0, 1) := by decide +kernel
theorem dX2_gain_1 : decode cX2_gain 1 = .ok (.iload_n 1, 1) := by decide +kernel
theorem dX2_gain_2 : decode cX2_gain 2 = .ok (.invokespecial 13, 3) := by decide +kernel
theorem dX2_gain_5 : decode cX2_gain 5 = .ok (.aload_n 0, 1) := by decide +kernel
theorem dX2_gain_6 : decode cX2_gain 6 = .ok (.getfield 7, 3) := by decide +kernel
theorem dX2_gain_9 : decode cX2_gain 9 = .ok (.imul, 1) := by decide +kernel
theorem dX2_gain_10 : decode cX2_gain 10 = .ok (.ireturn, 1) := by decide +kernel
set_option maxRecDepth 20000 in
theorem ggX2_mark_X1_mark : GoodIn wsX2_mark wsX1_mark := goodIn_r _ [6] (by decide +kernel) (by decide +kernel)
set_option maxRecDepth 20000 in
theorem gX2_mark_X1_mark_s17 : GoodIn wsX2_mark (va_wsSU RX2 17 yX1_mark wsX1_mark) := goodIn_app (goodIn_of _ (by decide +kernel)) ggX2_mark_X1_mark
theorem dX2_mark_0 : decode cX2_mark 0 = .ok (.aload_n 0, 1) := by decide +kernel
theorem dX2_mark_1 : decode cX2_mark 1 = .ok (.invokespecial 17, 3) := by decide +kernel
theorem dX2_mark_4 : decode cX2_mark 4 = .ok (.bipush 10, 2) := by decide +kernel
theorem dX2_mark_6 : decode cX2_mark 6 = .ok (.iadd, 1) := by decide +kernel
theorem dX2_mark_7 : decode cX2_mark 7 = .ok (.ireturn, 1) := by decide +kernel
set_option maxRecDepth 20000 in
theorem ggX3_init_X2_init : GoodIn wsX3_init wsX2_init := goodIn_r _ [5, 6, 7, 8, 9, 10, 11, 12, 13, 14, 15, 16, 17, 23, 24, 25, 26, 18, 19, 20, 21, 22, 27, 28, 29] (by decide +kernel) (by decide +kernel)
set_option maxRecDepth 20000 in
theorem gX3_init_X2_init : GoodIn wsX3_init (wsX2_init) := ggX3_init_X2_init
theorem dX3_init_0 : decode cX3_init 0 = .ok (.aload_n 0, 1) := by decide +kernel
theorem dX3_init_1 : decode cX3_init 1 = .ok (.iload_n 1, 1) := by decide +kernel
theorem dX3_init_2 : decode cX3_init 2 = .ok (.iload_n 2, 1) := by decide +kernel
theorem dX3_init_3 : decode cX3_init 3 = .ok (.iload_n 3, 1) := by decide +kernel
theorem dX3_init_4 : decode cX3_init 4 = .ok (.invokespecial 3, 3) := by decide +kernel
theorem dX3_init_7 : decode cX3_init 7 = .ok (.aload_n 0, 1) := by decide +kernel
theorem dX3_init_8 : decode cX3_init 8 = .ok (.iload 4, 2) := by decide +kernel
theorem dX3_init_10 : decode cX3_init 10 = .ok (.putfield 9, 3) := by decide +kernel
theorem dX3_init_13 : decode cX3_init 13 = .ok (.return_, 1) := by decide +kernel
set_option maxRecDepth 20000 in
theorem ggX3_gain_X2_gain : GoodIn wsX3_gain wsX2_gain := goodIn_r _ [7, 8, 9, 10, 11, 12, 13, 14, 20, 21, 22, 23, 15, 16, 17, 18, 19] (by decide +kernel) (by decide +kernel)
set_option maxRecDepth 20000 in
theorem gX3_gain_X2_gain_s15 : GoodIn wsX3_gain (va_wsSU RX3 15 yX2_gain wsX2_gain) := goodIn_app (goodIn_of _ (by decide +kernel)) ggX3_gain_X2_gain
theorem dX3_gain_0 : decode cX3_gain 0 = .ok (.aload_n 0, 1) := by decide +kernel
theorem dX3_gain_1 : decode cX3_gain 1 = .ok (.iload_n 1, 1) := by decide +kernel
theorem dX3_gain_2 : decode cX3_gain 2 = .ok (.invokespecial 15, 3) := by decide +kernel
theorem dX3_gain_5 : decode cX3_gain 5 = .ok (.istore_n 2, 1) := by decide +kernel
theorem dX3_gain_6 : decode cX3_gain 6 = .ok (.iload_n 2, 1) := by decide +kernel
theorem dX3_gain_7 : decode cX3_gain 7 = .ok (.iload_n 2, 1) := by decide +kernel
theorem dX3_gain_8 : decode cX3_gain 8 = .ok (.aload_n 0, 1) := by decide +kernel
theorem dX3_gain_9 : decode cX3_gain 9 = .ok (.getfield 9, 3) := by decide +kernel
theorem dX3_gain_12 : decode cX3_gain 12 = .ok (.imul, 1) := by decide +kernel
theorem dX3_gain_13 : decode cX3_gain 13 = .ok (.bipush 10, 2) := by decide +kernel
theorem dX3_gain_15 : decode cX3_gain 15 = .ok (.idiv, 1) := by decide +kernel
theorem dX3_gain_16 : decode cX3_gain 16 = .ok (.isub, 1) := by decide +kernel
theorem dX3_gain_17 : decode cX3_gain 17 = .ok (.ireturn, 1) := by decide +kernel
set_option maxRecDepth 20000 in
theorem ggX3_mark_X2_mark : GoodIn wsX3_mark wsX2_mark := goodIn_r _ [6, 7, 8, 9, 10, 11, 12] (by decide +kernel) (by decide +kernel)
set_option maxRecDepth 20000 in
theorem gX3_mark_X2_mark_s19 : GoodIn wsX3_mark (va_wsSU RX3 19 yX2_mark wsX2_mark) := goodIn_app (goodIn_of _ (by decide +kernel)) ggX3_mark_X2_mark
theorem dX3_mark_0 : decode cX3_mark 0 = .ok (.aload_n 0, 1) := by decide +kernel
theorem dX3_mark_1 : decode cX3_mark 1 = .ok (.invokespecial 19, 3) := by decide +kernel
theorem dX3_mark_4 : decode cX3_mark 4 = .ok (.bipush 100, 2) := by decide +kernel
theorem dX3_mark_6 : decode cX3_mark 6 = .ok (.iadd, 1) := by decide +kernel
theorem dX3_mark_7 : decode cX3_mark 7 = .ok (.ireturn, 1) := by decide +kernel
set_option maxRecDepth 20000 in
theorem ggX4_init_X0_init : GoodIn wsX4_init wsX0_init := goodIn_r _ [24, 25, 2, 3, 26, 16, 27, 28, 29, 30, 31, 43, 44, 45, 46, 47] (by decide +kernel) (by decide +kernel)
set_option maxRecDepth 20000 in
theorem gX4_init_X0_init : GoodIn wsX4_init (wsX0_init) := ggX4_init_X0_init
theorem dX4_init_0 : decode cX4_init 0 = .ok (.aload_n 0, 1) := by decide +kernel
theorem dX4_init_1 : decode cX4_init 1 = .ok (.invokespecial 3, 3) := by decide +kernel
theorem dX4_init_4 : decode cX4_init 4 = .ok (.aload_n 0, 1) := by decide +kernel
theorem dX4_init_5 : decode cX4_init 5 = .ok (.iconst 4, 1) := by decide +kernel
theorem dX4_init_6 : decode cX4_init 6 = .ok (.anewarray 9, 3) := by decide +kernel
theorem dX4_init_9 : decode cX4_init 9 = .ok (.putfield 11, 3) := by decide +kernel
theorem dX4_init_12 : decode cX4_init 12 = .ok (.aload_n 0, 1) := by decide +kernel
theorem dX4_init_13 : decode cX4_init 13 = .ok (.bipush 33, 2) := by decide +kernel
theorem dX4_init_15 : decode cX4_init 15 = .ok (.newarray .int, 2) := by decide +kernel
theorem dX4_init_17 : decode cX4_init 17 = .ok (.putfield 15, 3) := by decide +kernel
theorem dX4_init_20 : decode cX4_init 20 = .ok (.aload_n 0, 1) := by decide +kernel
theorem dX4_init_21 : decode cX4_init 21 = .ok (.new 19, 3) := by decide +kernel
theorem dX4_init_24 : decode cX4_init 24 = .ok (.dup, 1) := by decide +kernel
theorem dX4_init_25 : decode cX4_init 25 = .ok (.iconst 0, 1) := by decide +kernel
theorem dX4_init_26 : decode cX4_init 26 = .ok (.invokespecial 21, 3) := by decide +kernel
theorem dX4_init_29 : decode cX4_init 29 = .ok (.putfield 24, 3) := by decide +kernel
theorem dX4_init_32 : decode cX4_init 32 = .ok (.aload_n 0, 1) := by decide +kernel
theorem dX4_init_33 : decode cX4_init 33 = .ok (.new 19, 3) := by decide +kernel
theorem dX4_init_36 : decode cX4_init 36 = .ok (.dup, 1) := by decide +kernel
theorem dX4_init_37 : decode cX4_init 37 = .ok (.iconst 2, 1) := by decide +kernel
theorem dX4_init_38 : decode cX4_init 38 = .ok (.invokespecial 21, 3) := by decide +kernel
theorem dX4_init_41 : decode cX4_init 41 = .ok (.putfield 28, 3) := by decide +kernel
theorem dX4_init_44 : decode cX4_init 44 = .ok (.aload_n 0, 1) := by decide +kernel
theorem dX4_init_45 : decode cX4_init 45 = .ok (.new 19, 3) := by decide +kernel
theorem dX4_init_48 : decode cX4_init 48 = .ok (.dup, 1) := by decide +kernel
theorem dX4_init_49 : decode cX4_init 49 = .ok (.iconst 0, 1) := by decide +kernel
theorem dX4_init_50 : decode cX4_init 50 = .ok (.invokespecial 21, 3) := by decide +kernel
theorem dX4_init_53 : decode cX4_init 53 = .ok (.putfield 31, 3) := by decide +kernel
theorem dX4_init_56 : decode cX4_init 56 = .ok (.aload_n 0, 1) := by decide +kernel
theorem dX4_init_57 : decode cX4_init 57 = .ok (.sipush 198, 3) := by decide +kernel
theorem dX4_init_60 : decode cX4_init 60 = .ok (.newarray .int, 2) := by decide +kernel
theorem dX4_init_62 : decode cX4_init 62 = .ok (.putfield 34, 3) := by decide +kernel
theorem dX4_init_65 : decode cX4_init 65 = .ok (.aload_n 0, 1) := by decide +kernel
theorem dX4_init_66 : decode cX4_init 66 = .ok (.iconst 2, 1) := by decide +kernel
theorem dX4_init_67 : decode cX4_init 67 = .ok (.sipush 198, 3) := by decide +kernel
theorem dX4_init_70 : decode cX4_init 70 = .ok (.multianewarray 37 2, 4) := by decide +kernel
theorem dX4_init_74 : decode cX4_init 74 = .ok (.putfield 39, 3) := by decide +kernel
theorem dX4_init_77 : decode cX4_init 77 = .ok (.aload_n 0, 1) := by decide +kernel
theorem dX4_init_78 : decode cX4_init 78 = .ok (.bipush 8, 2) := by decide +kernel
theorem dX4_init_80 : decode cX4_init 80 = .ok (.putfield 42, 3) := by decide +kernel
theorem dX4_init_83 : decode cX4_init 83 = .ok (.aload_n 0, 1) := by decide +kernel
theorem dX4_init_84 : decode cX4_init 84 = .ok (.iconst 4, 1) := by decide +kernel
theorem dX4_init_85 : decode cX4_init 85 = .ok (.putfield 46, 3) := by decide +kernel
theorem dX4_init_88 : decode cX4_init 88 = .ok (.aload_n 0, 1) := by decide +kernel
theorem dX4_init_89 : decode cX4_init 89 = .ok (.iconst 0, 1) := by decide +kernel
theorem dX4_init_90 : decode cX4_init 90 = .ok (.putfield 49, 3) := by decide +kernel
theorem dX4_init_93 : decode cX4_init 93 = .ok (.aload_n 0, 1) := by decide +kernel
theorem dX4_init_94 : decode cX4_init 94 = .ok (.lconst 0, 1) := by decide +kernel
theorem dX4_init_95 : decode cX4_init 95 = .ok (.putfield 52, 3) := by decide +kernel
theorem dX4_init_98 : decode cX4_init 98 = .ok (.return_, 1) := by decide +kernel
set_option maxRecDepth 20000 in
theorem ggX4_set_X4_within : GoodIn wsX4_set wsX4_within := goodIn_r _ [5] (by decide +kernel) (by decide +kernel)
set_option maxRecDepth 20000 in
theorem gX4_set_X4_within : GoodIn wsX4_set (va_wsS RX4 56 yX4_within wsX4_within) := goodIn_app (goodIn_of _ (by decide +kernel)) ggX4_set_X4_within
set_option maxRecDepth 20000 in
theorem ggX4_set_X4_changeGoal : GoodIn wsX4_set wsX4_changeGoal := goodIn_r _ [9, 10, 11, 12, 13, 14, 4, 15, 16, 17, 18, 19, 20, 21, 22, 23, 24, 25, 26, 27, 28, 29, 30, 31, 32, 33, 34, 35, 36, 37, 38, 39, 40] (by decide +kernel) (by decide +kernel)
set_option maxRecDepth 20000 in
theorem gX4_set_X4_changeGoal : GoodIn wsX4_set (wsV RX4 60 RX4 yX4_changeGoal wsX4_changeGoal) := goodIn_app (goodIn_of _ (by decide +kernel)) ggX4_set_X4_changeGoal
theorem dX4_set_0 : decode cX4_set 0 = .ok (.iload_n 1, 1) := by decide +kernel
theorem dX4_set_1 : decode cX4_set 1 = .ok (.ifCond .ne 19, 3) := by decide +kernel
theorem dX4_set_4 : decode cX4_set 4 = .ok (.iload_n 2, 1) := by decide +kernel
theorem dX4_set_5 : decode cX4_set 5 = .ok (.iconst 2, 1) := by decide +kernel
theorem dX4_set_6 : decode cX4_set 6 = .ok (.bipush 32, 2) := by decide +kernel
theorem dX4_set_8 : decode cX4_set 8 = .ok (.invokestatic 56, 3) := by decide +kernel
theorem dX4_set_11 : decode cX4_set 11 = .ok (.ifCond .eq 9, 3) := by decide +kernel
theorem dX4_set_14 : decode cX4_set 14 = .ok (.aload_n 0, 1) := by decide +kernel
theorem dX4_set_15 : decode cX4_set 15 = .ok (.iload_n 2, 1) := by decide +kernel
theorem dX4_set_16 : decode cX4_set 16 = .ok (.invokevirtual 60, 3) := by decide +kernel
theorem dX4_set_19 : decode cX4_set 19 = .ok (.ireturn, 1) := by decide +kernel
theorem dX4_set_20 : decode cX4_set 20 = .ok (.iload_n 1, 1) := by decide +kernel
theorem dX4_set_21 : decode cX4_set 21 = .ok (.iconst 1, 1) := by decide +kernel
theorem dX4_set_22 : decode cX4_set 22 = .ok (.if_icmp .ne 25, 3) := by decide +kernel
theorem dX4_set_25 : decode cX4_set 25 = .ok (.iload_n 2, 1) := by decide +kernel
theorem dX4_set_26 : decode cX4_set 26 = .ok (.iconst 0, 1) := by decide +kernel
theorem dX4_set_27 : decode cX4_set 27 = .ok (.bipush 12, 2) := by decide +kernel
theorem dX4_set_29 : decode cX4_set 29 = .ok (.invokestatic 56, 3) := by decide +kernel
theorem dX4_set_32 : decode cX4_set 32 = .ok (.ifCond .eq 15, 3) := by decide +kernel
theorem dX4_set_35 : decode cX4_set 35 = .ok (.aload_n 0, 1) := by decide +kernel
theorem dX4_set_36 : decode cX4_set 36 = .ok (.getfield 46, 3) := by decide +kernel
theorem dX4_set_39 : decode cX4_set 39 = .ok (.istore_n 3, 1) := by decide +kernel
theorem dX4_set_40 : decode cX4_set 40 = .ok (.aload_n 0, 1) := by decide +kernel
theorem dX4_set_41 : decode cX4_set 41 = .ok (.iload_n 2, 1) := by decide +kernel
theorem dX4_set_42 : decode cX4_set 42 = .ok (.putfield 46, 3) := by decide +kernel
theorem dX4_set_45 : decode cX4_set 45 = .ok (.iload_n 3, 1) := by decide +kernel
theorem dX4_set_46 : decode cX4_set 46 = .ok (.ireturn, 1) := by decide +kernel
theorem dX4_set_47 : decode cX4_set 47 = .ok (.iconst (-1), 1) := by decide +kernel
theorem dX4_set_48 : decode cX4_set 48 = .ok (.ireturn, 1) := by decide +kernel
set_option maxRecDepth 20000 in
theorem ggX4_game_X4_within : GoodIn wsX4_game wsX4_within := goodIn_r _ [6] (by decide +kernel) (by decide +kernel)
set_option maxRecDepth 20000 in
theorem gX4_game_X4_within : GoodIn wsX4_game (va_wsS RX4 56 yX4_within wsX4_within) := goodIn_app (goodIn_of _ (by decide +kernel)) ggX4_game_X4_within
set_option maxRecDepth 20000 in
theorem ggX4_game_X4_newGame : GoodIn wsX4_game wsX4_newGame := goodIn_r _ [9, 10, 11, 12, 13, 14, 15, 16, 17, 18, 19, 20, 21, 22, 23, 24, 25, 26, 27, 28, 29, 30, 31, 32, 33, 34, 35, 36, 37, 38, 89, 90, 91, 92, 93, 94, 95, 96, 97, 98, 99, 100] (by decide +kernel) (by decide +kernel)
set_option maxRecDepth 20000 in
theorem gX4_game_X4_newGame : GoodIn wsX4_game (va_wsS RX4 64 yX4_newGame wsX4_newGame) := goodIn_app (goodIn_of _ (by decide +kernel)) ggX4_game_X4_newGame
set_option maxRecDepth 20000 in
theorem ggX4_game_X1_keepGains : GoodIn wsX4_game wsX1_keepGains := goodIn_r _ [42, 34, 43, 44, 45, 18, 46, 47, 48, 49, 50, 51, 15, 52, 26, 53, 54, 55, 56, 12, 57, 22, 58, 59, 60, 98, 99, 100, 94, 95, 96, 97, 89, 90, 91, 92, 93] (by decide +kernel) (by decide +kernel)
set_option maxRecDepth 20000 in
theorem gX4_game_X1_keepGains : GoodIn wsX4_game (wsV RX4 68 RX1 yX1_keepGains wsX1_keepGains) := goodIn_app (goodIn_of _ (by decide +kernel)) ggX4_game_X1_keepGains
set_option maxRecDepth 20000 in
theorem gX4_game_X1_keepGains_u68X2 : GoodIn wsX4_game (va_wsU RX4 68 RX2 "StakeHouse$EvenGame" ⟨"StakeHouse$EvenGame", "keepGains", "()V"⟩ yX1_keepGains wsX1_keepGains) := goodIn_app (goodIn_of _ (by decide +kernel)) ggX4_game_X1_keepGains
set_option maxRecDepth 20000 in
theorem gX4_game_X1_keepGains_u68X3 : GoodIn wsX4_game (va_wsU RX4 68 RX3 "StakeHouse$EvenGame" ⟨"StakeHouse$EvenGame", "keepGains", "()V"⟩ yX1_keepGains wsX1_keepGains) := goodIn_app (goodIn_of _ (by decide +kernel)) ggX4_game_X1_keepGains
set_option maxRecDepth 20000 in
theorem ggX4_game_X4_forgetCharts : GoodIn wsX4_game wsX4_forgetCharts := goodIn_r _ [68, 69, 70, 71, 72, 73, 74, 75, 76, 77, 78, 79, 80, 81, 82, 83, 84, 85, 86, 87, 88, 101, 102, 103, 104, 105] (by decide +kernel) (by decide +kernel)
set_option maxRecDepth 20000 in
theorem gX4_game_X4_forgetCharts : GoodIn wsX4_game (wsV RX4 71 RX4 yX4_forgetCharts wsX4_forgetCharts) := goodIn_app (goodIn_of _ (by decide +kernel)) ggX4_game_X4_forgetCharts
theorem dX4_game_0 : decode cX4_game 0 = .ok (.iload_n 1, 1) := by decide +kernel
theorem dX4_game_1 : decode cX4_game 1 = .ok (.iconst 0, 1) := by decide +kernel
theorem dX4_game_2 : decode cX4_game 2 = .ok (.iconst 2, 1) := by decide +kernel
theorem dX4_game_3 : decode cX4_game 3 = .ok (.invokestatic 56, 3) := by decide +kernel
theorem dX4_game_6 : decode cX4_game 6 = .ok (.ifCond .eq 24, 3) := by decide +kernel
theorem dX4_game_9 : decode cX4_game 9 = .ok (.iload_n 2, 1) := by decide +kernel
theorem dX4_game_10 : decode cX4_game 10 = .ok (.iconst 0, 1) := by decide +kernel
theorem dX4_game_11 : decode cX4_game 11 = .ok (.bipush 16, 2) := by decide +kernel
theorem dX4_game_13 : decode cX4_game 13 = .ok (.invokestatic 56, 3) := by decide +kernel
theorem dX4_game_16 : decode cX4_game 16 = .ok (.ifCond .eq 14, 3) := by decide +kernel
theorem dX4_game_19 : decode cX4_game 19 = .ok (.iload 5, 2) := by decide +kernel
theorem dX4_game_21 : decode cX4_game 21 = .ok (.iconst 1, 1) := by decide +kernel
theorem dX4_game_22 : decode cX4_game 22 = .ok (.bipush 32, 2) := by decide +kernel
theorem dX4_game_24 : decode cX4_game 24 = .ok (.invokestatic 56, 3) := by decide +kernel
theorem dX4_game_27 : decode cX4_game 27 = .ok (.ifCond .ne 5, 3) := by decide +kernel
theorem dX4_game_30 : decode cX4_game 30 = .ok (.iconst (-1), 1) := by decide +kernel
theorem dX4_game_31 : decode cX4_game 31 = .ok (.ireturn, 1) := by decide +kernel
theorem dX4_game_32 : decode cX4_game 32 = .ok (.iload_n 1, 1) := by decide +kernel
theorem dX4_game_33 : decode cX4_game 33 = .ok (.ifCond .eq 15, 3) := by decide +kernel
theorem dX4_game_36 : decode cX4_game 36 = .ok (.iload_n 3, 1) := by decide +kernel
theorem dX4_game_37 : decode cX4_game 37 = .ok (.iconst 1, 1) := by decide +kernel
theorem dX4_game_38 : decode cX4_game 38 = .ok (.bipush 9, 2) := by decide +kernel
theorem dX4_game_40 : decode cX4_game 40 = .ok (.invokestatic 56, 3) := by decide +kernel
theorem dX4_game_43 : decode cX4_game 43 = .ok (.ifCond .ne 5, 3) := by decide +kernel
theorem dX4_game_46 : decode cX4_game 46 = .ok (.iconst (-1), 1) := by decide +kernel
theorem dX4_game_47 : decode cX4_game 47 = .ok (.ireturn, 1) := by decide +kernel
theorem dX4_game_48 : decode cX4_game 48 = .ok (.iload_n 1, 1) := by decide +kernel
theorem dX4_game_49 : decode cX4_game 49 = .ok (.iconst 2, 1) := by decide +kernel
theorem dX4_game_50 : decode cX4_game 50 = .ok (.if_icmp .ne 16, 3) := by decide +kernel
theorem dX4_game_53 : decode cX4_game 53 = .ok (.iload 4, 2) := by decide +kernel
theorem dX4_game_55 : decode cX4_game 55 = .ok (.iconst 0, 1) := by decide +kernel
theorem dX4_game_56 : decode cX4_game 56 = .ok (.bipush 10, 2) := by decide +kernel
theorem dX4_game_58 : decode cX4_game 58 = .ok (.invokestatic 56, 3) := by decide +kernel
theorem dX4_game_61 : decode cX4_game 61 = .ok (.ifCond .ne 5, 3) := by decide +kernel
theorem dX4_game_64 : decode cX4_game 64 = .ok (.iconst (-1), 1) := by decide +kernel
theorem dX4_game_65 : decode cX4_game 65 = .ok (.ireturn, 1) := by decide +kernel
theorem dX4_game_66 : decode cX4_game 66 = .ok (.aload_n 0, 1) := by decide +kernel
theorem dX4_game_67 : decode cX4_game 67 = .ok (.getfield 49, 3) := by decide +kernel
theorem dX4_game_70 : decode cX4_game 70 = .ok (.iconst 4, 1) := by decide +kernel
theorem dX4_game_71 : decode cX4_game 71 = .ok (.if_icmp .lt 6, 3) := by decide +kernel
theorem dX4_game_74 : decode cX4_game 74 = .ok (.bipush (-3), 2) := by decide +kernel
theorem dX4_game_76 : decode cX4_game 76 = .ok (.ireturn, 1) := by decide +kernel
theorem dX4_game_77 : decode cX4_game 77 = .ok (.iload_n 1, 1) := by decide +kernel
theorem dX4_game_78 : decode cX4_game 78 = .ok (.iload_n 2, 1) := by decide +kernel
theorem dX4_game_79 : decode cX4_game 79 = .ok (.iload_n 3, 1) := by decide +kernel
theorem dX4_game_80 : decode cX4_game 80 = .ok (.iload 4, 2) := by decide +kernel
theorem dX4_game_82 : decode cX4_game 82 = .ok (.iload 5, 2) := by decide +kernel
theorem dX4_game_84 : decode cX4_game 84 = .ok (.invokestatic 64, 3) := by decide +kernel
theorem dX4_game_87 : decode cX4_game 87 = .ok (.astore 6, 2) := by decide +kernel
theorem dX4_game_89 : decode cX4_game 89 = .ok (.aload 6, 2) := by decide +kernel
theorem dX4_game_91 : decode cX4_game 91 = .ok (.invokevirtual 68, 3) := by decide +kernel
theorem dX4_game_94 : decode cX4_game 94 = .ok (.aload_n 0, 1) := by decide +kernel
theorem dX4_game_95 : decode cX4_game 95 = .ok (.getfield 11, 3) := by decide +kernel
theorem dX4_game_98 : decode cX4_game 98 = .ok (.aload_n 0, 1) := by decide +kernel
theorem dX4_game_99 : decode cX4_game 99 = .ok (.getfield 49, 3) := by decide +kernel
theorem dX4_game_102 : decode cX4_game 102 = .ok (.aload 6, 2) := by decide +kernel
theorem dX4_game_104 : decode cX4_game 104 = .ok (.aastore, 1) := by decide +kernel
theorem dX4_game_105 : decode cX4_game 105 = .ok (.aload_n 0, 1) := by decide +kernel
theorem dX4_game_106 : decode cX4_game 106 = .ok (.dup, 1) := by decide +kernel
theorem dX4_game_107 : decode cX4_game 107 = .ok (.getfield 49, 3) := by decide +kernel
theorem dX4_game_110 : decode cX4_game 110 = .ok (.iconst 1, 1) := by decide +kernel
theorem dX4_game_111 : decode cX4_game 111 = .ok (.iadd, 1) := by decide +kernel
theorem dX4_game_112 : decode cX4_game 112 = .ok (.putfield 49, 3) := by decide +kernel
theorem dX4_game_115 : decode cX4_game 115 = .ok (.aload_n 0, 1) := by decide +kernel
theorem dX4_game_116 : decode cX4_game 116 = .ok (.invokevirtual 71, 3) := by decide +kernel
theorem dX4_game_119 : decode cX4_game 119 = .ok (.aload_n 0, 1) := by decide +kernel
theorem dX4_game_120 : decode cX4_game 120 = .ok (.getfield 49, 3) := by decide +kernel
theorem dX4_game_123 : decode cX4_game 123 = .ok (.iconst 1, 1) := by decide +kernel
theorem dX4_game_124 : decode cX4_game 124 = .ok (.isub, 1) := by decide +kernel
theorem dX4_game_125 : decode cX4_game 125 = .ok (.ireturn, 1) := by decide +kernel
set_option maxRecDepth 20000 in
theorem ggX4_drop_X4_forgetCharts : GoodIn wsX4_drop wsX4_forgetCharts := goodIn_r _ [7, 8, 9, 10, 11, 12, 13, 14, 15, 16, 17, 18, 19, 20, 21, 22, 23, 24, 25, 26, 27, 28, 29, 30, 31, 32] (by decide +kernel) (by decide +kernel)
set_option maxRecDepth 20000 in
theorem gX4_drop_X4_forgetCharts : GoodIn wsX4_drop (wsV RX4 71 RX4 yX4_forgetCharts wsX4_forgetCharts) := goodIn_app (goodIn_of _ (by decide +kernel)) ggX4_drop_X4_forgetCharts
theorem dX4_drop_0 : decode cX4_drop 0 = .ok (.aload_n 0, 1) := by decide +kernel
theorem dX4_drop_1 : decode cX4_drop 1 = .ok (.getfield 49, 3) := by decide +kernel
theorem dX4_drop_4 : decode cX4_drop 4 = .ok (.iconst 1, 1) := by decide +kernel
theorem dX4_drop_5 : decode cX4_drop 5 = .ok (.if_icmp .ge 6, 3) := by decide +kernel
theorem dX4_drop_8 : decode cX4_drop 8 = .ok (.bipush (-2), 2) := by decide +kernel
theorem dX4_drop_10 : decode cX4_drop 10 = .ok (.ireturn, 1) := by decide +kernel
theorem dX4_drop_11 : decode cX4_drop 11 = .ok (.aload_n 0, 1) := by decide +kernel
theorem dX4_drop_12 : decode cX4_drop 12 = .ok (.dup, 1) := by decide +kernel
theorem dX4_drop_13 : decode cX4_drop 13 = .ok (.getfield 49, 3) := by decide +kernel
theorem dX4_drop_16 : decode cX4_drop 16 = .ok (.iconst 1, 1) := by decide +kernel
theorem dX4_drop_17 : decode cX4_drop 17 = .ok (.isub, 1) := by decide +kernel
theorem dX4_drop_18 : decode cX4_drop 18 = .ok (.putfield 49, 3) := by decide +kernel
theorem dX4_drop_21 : decode cX4_drop 21 = .ok (.aload_n 0, 1) := by decide +kernel
theorem dX4_drop_22 : decode cX4_drop 22 = .ok (.getfield 11, 3) := by decide +kernel
theorem dX4_drop_25 : decode cX4_drop 25 = .ok (.aload_n 0, 1) := by decide +kernel
theorem dX4_drop_26 : decode cX4_drop 26 = .ok (.getfield 49, 3) := by decide +kernel
theorem dX4_drop_29 : decode cX4_drop 29 = .ok (.aconst_null, 1) := by decide +kernel
theorem dX4_drop_30 : decode cX4_drop 30 = .ok (.aastore, 1) := by decide +kernel
theorem dX4_drop_31 : decode cX4_drop 31 = .ok (.aload_n 0, 1) := by decide +kernel
theorem dX4_drop_32 : decode cX4_drop 32 = .ok (.invokevirtual 71, 3) := by decide +kernel
theorem dX4_drop_35 : decode cX4_drop 35 = .ok (.aload_n 0, 1) := by decide +kernel
theorem dX4_drop_36 : decode cX4_drop 36 = .ok (.getfield 49, 3) := by decide +kernel
theorem dX4_drop_39 : decode cX4_drop 39 = .ok (.ireturn, 1) := by decide +kernel
set_option maxRecDepth 20000 in
theorem ggX4_win_X4_gameAt : GoodIn wsX4_win wsX4_gameAt := goodIn_r _ [6, 7, 8, 9, 10, 5, 11, 51, 52, 53, 54, 55, 56, 57, 58, 59, 60, 61] (by decide +kernel) (by decide +kernel)
set_option maxRecDepth 20000 in
theorem gX4_win_X4_gameAt : GoodIn wsX4_win (wsV RX4 74 RX4 yX4_gameAt wsX4_gameAt) := goodIn_app (goodIn_of _ (by decide +kernel)) ggX4_win_X4_gameAt
set_option maxRecDepth 20000 in
theorem ggX4_win_X4_within : GoodIn wsX4_win wsX4_within := goodIn_r _ [11] (by decide +kernel) (by decide +kernel)
set_option maxRecDepth 20000 in
theorem gX4_win_X4_within : GoodIn wsX4_win (va_wsS RX4 56 yX4_within wsX4_within) := goodIn_app (goodIn_of _ (by decide +kernel)) ggX4_win_X4_within
set_option maxRecDepth 20000 in
theorem ggX4_win_X1_mark : GoodIn wsX4_win wsX1_mark := goodIn_r _ [16] (by decide +kernel) (by decide +kernel)
set_option maxRecDepth 20000 in
theorem gX4_win_X1_mark : GoodIn wsX4_win (wsV RX4 78 RX1 yX1_mark wsX1_mark) := goodIn_app (goodIn_of _ (by decide +kernel)) ggX4_win_X1_mark
set_option maxRecDepth 20000 in
theorem ggX4_win_X2_mark : GoodIn wsX4_win wsX2_mark := goodIn_r _ [23, 24, 18, 25, 13, 15, 16] (by decide +kernel) (by decide +kernel)
set_option maxRecDepth 20000 in
theorem gX4_win_X2_mark_u78X2 : GoodIn wsX4_win (va_wsO RX4 78 RX2 "StakeHouse$EvenGame" ⟨"StakeHouse$EvenGame", "mark", "()I"⟩ yX2_mark wsX2_mark) := goodIn_app (goodIn_of _ (by decide +kernel)) ggX4_win_X2_mark
set_option maxRecDepth 20000 in
theorem ggX4_win_X3_mark : GoodIn wsX4_win wsX3_mark := goodIn_r _ [29, 30, 31, 32, 21, 22, 23, 24, 18, 25, 13, 15, 16] (by decide +kernel) (by decide +kernel)
set_option maxRecDepth 20000 in
theorem gX4_win_X3_mark_u78X3 : GoodIn wsX4_win (va_wsO RX4 78 RX3 "StakeHouse$EvenGame" ⟨"StakeHouse$EvenGame", "mark", "()I"⟩ yX3_mark wsX3_mark) := goodIn_app (goodIn_of _ (by decide +kernel)) ggX4_win_X3_mark
set_option maxRecDepth 20000 in
theorem ggX4_win_X1_gain : GoodIn wsX4_win wsX1_gain := goodIn_r _ [36] (by decide +kernel) (by decide +kernel)
set_option maxRecDepth 20000 in
theorem gX4_win_X1_gain : GoodIn wsX4_win (wsV RX4 82 RX1 yX1_gain wsX1_gain) := goodIn_app (goodIn_of _ (by decide +kernel)) ggX4_win_X1_gain
set_option maxRecDepth 20000 in
theorem ggX4_win_X2_gain : GoodIn wsX4_win wsX2_gain := goodIn_r _ [42, 43, 44, 38, 25, 34, 15, 36, 62, 63, 64, 65, 66, 67, 68, 69, 70] (by decide +kernel) (by decide +kernel)
set_option maxRecDepth 20000 in
theorem gX4_win_X2_gain_u82X2 : GoodIn wsX4_win (va_wsO RX4 82 RX2 "StakeHouse$EvenGame" ⟨"StakeHouse$EvenGame", "gain", "(I)I"⟩ yX2_gain wsX2_gain) := goodIn_app (goodIn_of _ (by decide +kernel)) ggX4_win_X2_gain
set_option maxRecDepth 20000 in
theorem ggX4_win_X3_gain : GoodIn wsX4_win wsX3_gain := goodIn_r _ [47, 48, 49, 50, 32, 41, 22, 42, 43, 44, 38, 25, 34, 15, 36, 66, 67, 68, 69, 70, 62, 63, 64, 65] (by decide +kernel) (by decide +kernel)
set_option maxRecDepth 20000 in
theorem gX4_win_X3_gain_u82X3 : GoodIn wsX4_win (va_wsO RX4 82 RX3 "StakeHouse$EvenGame" ⟨"StakeHouse$EvenGame", "gain", "(I)I"⟩ yX3_gain wsX3_gain) := goodIn_app (goodIn_of _ (by decide +kernel)) ggX4_win_X3_gain
theorem dX4_win_0 : decode cX4_win 0 = .ok (.aload_n 0, 1) := by decide +kernel
theorem dX4_win_1 : decode cX4_win 1 = .ok (.iload_n 1, 1) := by decide +kernel
theorem dX4_win_2 : decode cX4_win 2 = .ok (.invokevirtual 74, 3) := by decide +kernel
theorem dX4_win_5 : decode cX4_win 5 = .ok (.astore_n 3, 1) := by decide +kernel
theorem dX4_win_6 : decode cX4_win 6 = .ok (.aload_n 3, 1) := by decide +kernel
theorem dX4_win_7 : decode cX4_win 7 = .ok (.ifnull 13, 3) := by decide +kernel
theorem dX4_win_10 : decode cX4_win 10 = .ok (.iload_n 2, 1) := by decide +kernel
theorem dX4_win_11 : decode cX4_win 11 = .ok (.iconst 1, 1) := by decide +kernel
theorem dX4_win_12 : decode cX4_win 12 = .ok (.bipush 32, 2) := by decide +kernel
theorem dX4_win_14 : decode cX4_win 14 = .ok (.invokestatic 56, 3) := by decide +kernel
theorem dX4_win_17 : decode cX4_win 17 = .ok (.ifCond .ne 5, 3) := by decide +kernel
theorem dX4_win_20 : decode cX4_win 20 = .ok (.iconst (-1), 1) := by decide +kernel
theorem dX4_win_21 : decode cX4_win 21 = .ok (.ireturn, 1) := by decide +kernel
theorem dX4_win_22 : decode cX4_win 22 = .ok (.aload_n 0, 1) := by decide +kernel
theorem dX4_win_23 : decode cX4_win 23 = .ok (.dup, 1) := by decide +kernel
theorem dX4_win_24 : decode cX4_win 24 = .ok (.getfield 52, 3) := by decide +kernel
theorem dX4_win_27 : decode cX4_win 27 = .ok (.aload_n 3, 1) := by decide +kernel
theorem dX4_win_28 : decode cX4_win 28 = .ok (.invokevirtual 78, 3) := by decide +kernel
theorem dX4_win_31 : decode cX4_win 31 = .ok (.i2l, 1) := by decide +kernel
theorem dX4_win_32 : decode cX4_win 32 = .ok (.ladd, 1) := by decide +kernel
theorem dX4_win_33 : decode cX4_win 33 = .ok (.putfield 52, 3) := by decide +kernel
theorem dX4_win_36 : decode cX4_win 36 = .ok (.aload_n 3, 1) := by decide +kernel
theorem dX4_win_37 : decode cX4_win 37 = .ok (.iload_n 2, 1) := by decide +kernel
theorem dX4_win_38 : decode cX4_win 38 = .ok (.invokevirtual 82, 3) := by decide +kernel
theorem dX4_win_41 : decode cX4_win 41 = .ok (.ireturn, 1) := by decide +kernel
set_option maxRecDepth 20000 in
theorem ggX4_best_X4_greatestFrom : GoodIn wsX4_best wsX4_greatestFrom := goodIn_r _ [6, 7, 8, 9, 10, 11, 12, 5, 13, 14, 15, 16, 17, 18, 19, 20, 21, 22, 23, 24, 25, 26, 27, 28, 29, 30, 31, 32, 33, 34, 35, 36, 37, 38, 39, 40, 41, 42, 43, 44, 45, 46, 47, 48, 49, 50, 51, 52, 53, 54, 55, 56, 57, 58, 59, 60, 61, 62, 63, 64, 65, 66, 67, 68, 69, 70, 71, 72, 73, 74, 75, 76, 77, 78, 79, 80, 81, 82, 83, 84, 85, 86, 87, 88, 89, 90, 91, 92, 93, 94, 95, 96, 97] (by decide +kernel) (by decide +kernel)
set_option maxRecDepth 20000 in
theorem gX4_best_X4_greatestFrom : GoodIn wsX4_best (wsV RX4 85 RX4 yX4_greatestFrom wsX4_greatestFrom) := goodIn_app (goodIn_of _ (by decide +kernel)) ggX4_best_X4_greatestFrom
theorem dX4_best_0 : decode cX4_best 0 = .ok (.aload_n 0, 1) := by decide +kernel
theorem dX4_best_1 : decode cX4_best 1 = .ok (.aload_n 0, 1) := by decide +kernel
theorem dX4_best_2 : decode cX4_best 2 = .ok (.getfield 24, 3) := by decide +kernel
theorem dX4_best_5 : decode cX4_best 5 = .ok (.iload_n 1, 1) := by decide +kernel
theorem dX4_best_6 : decode cX4_best 6 = .ok (.iload_n 2, 1) := by decide +kernel
theorem dX4_best_7 : decode cX4_best 7 = .ok (.invokevirtual 85, 3) := by decide +kernel
theorem dX4_best_10 : decode cX4_best 10 = .ok (.lreturn, 1) := by decide +kernel
set_option maxRecDepth 20000 in
theorem ggX4_stakes_X4_gameAt : GoodIn wsX4_stakes wsX4_gameAt := goodIn_r _ [8, 3, 9, 10, 11, 7, 12, 69, 70, 71, 72, 73, 74, 75, 76, 77, 78, 79] (by decide +kernel) (by decide +kernel)
set_option maxRecDepth 20000 in
theorem gX4_stakes_X4_gameAt : GoodIn wsX4_stakes (wsV RX4 74 RX4 yX4_gameAt wsX4_gameAt) := goodIn_app (goodIn_of _ (by decide +kernel)) ggX4_stakes_X4_gameAt
set_option maxRecDepth 20000 in
theorem ggX4_stakes_X4_isSpot : GoodIn wsX4_stakes wsX4_isSpot := goodIn_r _ [16, 17, 18, 10, 11, 7, 12, 69, 70, 71, 72, 73, 74, 75, 76, 77, 78, 79] (by decide +kernel) (by decide +kernel)
set_option maxRecDepth 20000 in
theorem gX4_stakes_X4_isSpot : GoodIn wsX4_stakes (wsV RX4 89 RX4 yX4_isSpot wsX4_isSpot) := goodIn_app (goodIn_of _ (by decide +kernel)) ggX4_stakes_X4_isSpot
set_option maxRecDepth 20000 in
theorem ggX4_stakes_X4_isPlayed : GoodIn wsX4_stakes wsX4_isPlayed := goodIn_r _ [22, 17, 10, 11, 7, 12, 69, 70, 71, 72, 73, 74, 75, 76, 77, 78, 79] (by decide +kernel) (by decide +kernel)
set_option maxRecDepth 20000 in
theorem gX4_stakes_X4_isPlayed : GoodIn wsX4_stakes (wsV RX4 95 RX4 yX4_isPlayed wsX4_isPlayed) := goodIn_app (goodIn_of _ (by decide +kernel)) ggX4_stakes_X4_isPlayed
set_option maxRecDepth 20000 in
theorem ggX4_stakes_X0_cover : GoodIn wsX4_stakes wsX0_cover := goodIn_r _ [27, 28, 29, 30, 80, 81, 82, 83, 84] (by decide +kernel) (by decide +kernel)
set_option maxRecDepth 20000 in
theorem gX4_stakes_X0_cover : GoodIn wsX4_stakes (wsV RX4 99 RX0 yX0_cover wsX0_cover) := goodIn_app (goodIn_of _ (by decide +kernel)) ggX4_stakes_X0_cover
set_option maxRecDepth 20000 in
theorem ggX4_stakes_X4_chartRow : GoodIn wsX4_stakes wsX4_chartRow := goodIn_r _ [34, 17, 35, 36, 37, 7, 38, 39, 40, 41, 42, 43, 44, 45, 46, 47, 19, 20, 21, 22, 10, 11, 12, 4, 5, 6, 8, 3, 9, 48, 49, 50, 51, 52, 53, 54, 55, 56, 57, 58, 59, 60, 61, 62, 63, 64, 80, 81, 82, 83, 84, 69, 70, 71, 72, 73, 74, 75, 76, 77, 78, 79, 85, 86, 87, 88, 89, 90, 91, 92, 93, 94, 95, 96] (by decide +kernel) (by decide +kernel)
set_option maxRecDepth 20000 in
theorem gX4_stakes_X4_chartRow : GoodIn wsX4_stakes (wsV RX4 103 RX4 yX4_chartRow wsX4_chartRow) := goodIn_app (goodIn_of _ (by decide +kernel)) ggX4_stakes_X4_chartRow
set_option maxRecDepth 20000 in
theorem ggX4_stakes_X4_bestStakes : GoodIn wsX4_stakes wsX4_bestStakes := goodIn_r _ [68, 43, 52, 53, 7, 54, 55, 56, 46, 57, 58, 59, 60, 61, 17, 62, 63, 64, 85, 86, 87, 88, 89, 90, 91, 92, 93, 94, 95, 96, 69, 70, 71, 72, 73, 74, 75, 76, 77, 78, 79] (by decide +kernel) (by decide +kernel)
set_option maxRecDepth 20000 in
theorem gX4_stakes_X4_bestStakes : GoodIn wsX4_stakes (wsV RX4 107 RX4 yX4_bestStakes wsX4_bestStakes) := goodIn_app (goodIn_of _ (by decide +kernel)) ggX4_stakes_X4_bestStakes
theorem dX4_stakes_0 : decode cX4_stakes 0 = .ok (.aload_n 0, 1) := by decide +kernel
theorem dX4_stakes_1 : decode cX4_stakes 1 = .ok (.iload_n 1, 1) := by decide +kernel
theorem dX4_stakes_2 : decode cX4_stakes 2 = .ok (.invokevirtual 74, 3) := by decide +kernel
theorem dX4_stakes_5 : decode cX4_stakes 5 = .ok (.astore 4, 2) := by decide +kernel
theorem dX4_stakes_7 : decode cX4_stakes 7 = .ok (.aload 4, 2) := by decide +kernel
theorem dX4_stakes_9 : decode cX4_stakes 9 = .ok (.ifnull 17, 3) := by decide +kernel
theorem dX4_stakes_12 : decode cX4_stakes 12 = .ok (.aload_n 0, 1) := by decide +kernel
theorem dX4_stakes_13 : decode cX4_stakes 13 = .ok (.iload_n 2, 1) := by decide +kernel
theorem dX4_stakes_14 : decode cX4_stakes 14 = .ok (.iload_n 3, 1) := by decide +kernel
theorem dX4_stakes_15 : decode cX4_stakes 15 = .ok (.invokevirtual 89, 3) := by decide +kernel
theorem dX4_stakes_18 : decode cX4_stakes 18 = .ok (.ifCond .eq 8, 3) := by decide +kernel
theorem dX4_stakes_21 : decode cX4_stakes 21 = .ok (.iload_n 3, 1) := by decide +kernel
theorem dX4_stakes_22 : decode cX4_stakes 22 = .ok (.iconst 1, 1) := by decide +kernel
theorem dX4_stakes_23 : decode cX4_stakes 23 = .ok (.if_icmp .ge 7, 3) := by decide +kernel
theorem dX4_stakes_26 : decode cX4_stakes 26 = .ok (.ldc2_w 93, 3) := by decide +kernel
theorem dX4_stakes_29 : decode cX4_stakes 29 = .ok (.lreturn, 1) := by decide +kernel
theorem dX4_stakes_30 : decode cX4_stakes 30 = .ok (.aload_n 0, 1) := by decide +kernel
theorem dX4_stakes_31 : decode cX4_stakes 31 = .ok (.iload_n 2, 1) := by decide +kernel
theorem dX4_stakes_32 : decode cX4_stakes 32 = .ok (.invokevirtual 95, 3) := by decide +kernel
theorem dX4_stakes_35 : decode cX4_stakes 35 = .ok (.ifCond .ne 5, 3) := by decide +kernel
theorem dX4_stakes_38 : decode cX4_stakes 38 = .ok (.lconst 0, 1) := by decide +kernel
theorem dX4_stakes_39 : decode cX4_stakes 39 = .ok (.lreturn, 1) := by decide +kernel
theorem dX4_stakes_40 : decode cX4_stakes 40 = .ok (.aload_n 0, 1) := by decide +kernel
theorem dX4_stakes_41 : decode cX4_stakes 41 = .ok (.getfield 24, 3) := by decide +kernel
theorem dX4_stakes_44 : decode cX4_stakes 44 = .ok (.iconst 0, 1) := by decide +kernel
theorem dX4_stakes_45 : decode cX4_stakes 45 = .ok (.aload_n 0, 1) := by decide +kernel
theorem dX4_stakes_46 : decode cX4_stakes 46 = .ok (.getfield 49, 3) := by decide +kernel
theorem dX4_stakes_49 : decode cX4_stakes 49 = .ok (.invokevirtual 99, 3) := by decide +kernel
theorem dX4_stakes_52 : decode cX4_stakes 52 = .ok (.aload_n 0, 1) := by decide +kernel
theorem dX4_stakes_53 : decode cX4_stakes 53 = .ok (.aload 4, 2) := by decide +kernel
theorem dX4_stakes_55 : decode cX4_stakes 55 = .ok (.iload_n 2, 1) := by decide +kernel
theorem dX4_stakes_56 : decode cX4_stakes 56 = .ok (.aload_n 0, 1) := by decide +kernel
theorem dX4_stakes_57 : decode cX4_stakes 57 = .ok (.aload_n 0, 1) := by decide +kernel
theorem dX4_stakes_58 : decode cX4_stakes 58 = .ok (.getfield 24, 3) := by decide +kernel
theorem dX4_stakes_61 : decode cX4_stakes 61 = .ok (.iload_n 3, 1) := by decide +kernel
theorem dX4_stakes_62 : decode cX4_stakes 62 = .ok (.invokevirtual 103, 3) := by decide +kernel
theorem dX4_stakes_65 : decode cX4_stakes 65 = .ok (.iload_n 2, 1) := by decide +kernel
theorem dX4_stakes_66 : decode cX4_stakes 66 = .ok (.laload, 1) := by decide +kernel
theorem dX4_stakes_67 : decode cX4_stakes 67 = .ok (.aload_n 0, 1) := by decide +kernel
theorem dX4_stakes_68 : decode cX4_stakes 68 = .ok (.aload_n 0, 1) := by decide +kernel
theorem dX4_stakes_69 : decode cX4_stakes 69 = .ok (.getfield 24, 3) := by decide +kernel
theorem dX4_stakes_72 : decode cX4_stakes 72 = .ok (.iload_n 3, 1) := by decide +kernel
theorem dX4_stakes_73 : decode cX4_stakes 73 = .ok (.iconst 1, 1) := by decide +kernel
theorem dX4_stakes_74 : decode cX4_stakes 74 = .ok (.isub, 1) := by decide +kernel
theorem dX4_stakes_75 : decode cX4_stakes 75 = .ok (.invokevirtual 103, 3) := by decide +kernel
theorem dX4_stakes_78 : decode cX4_stakes 78 = .ok (.invokevirtual 107, 3) := by decide +kernel
theorem dX4_stakes_81 : decode cX4_stakes 81 = .ok (.lreturn, 1) := by decide +kernel
set_option maxRecDepth 20000 in
theorem ggX4_mean_X4_greatestFrom : GoodIn wsX4_mean wsX4_greatestFrom := goodIn_r _ [6, 7, 8, 9, 10, 11, 12, 5, 13, 14, 15, 16, 17, 18, 19, 20, 21, 22, 23, 24, 25, 26, 27, 28, 29, 30, 31, 32, 33, 34, 35, 36, 37, 38, 39, 40, 41, 42, 43, 44, 45, 46, 47, 48, 49, 50, 51, 52, 53, 54, 55, 56, 57, 58, 59, 60, 61, 62, 63, 64, 65, 66, 67, 68, 69, 70, 71, 72, 73, 74, 75, 76, 77, 78, 79, 80, 81, 82, 83, 84, 85, 86, 87, 88, 89, 90, 91, 92, 93, 94, 95, 96, 97] (by decide +kernel) (by decide +kernel)
set_option maxRecDepth 20000 in
theorem gX4_mean_X4_greatestFrom : GoodIn wsX4_mean (wsV RX4 85 RX4 yX4_greatestFrom wsX4_greatestFrom) := goodIn_app (goodIn_of _ (by decide +kernel)) ggX4_mean_X4_greatestFrom
theorem dX4_mean_0 : decode cX4_mean 0 = .ok (.aload_n 0, 1) := by decide +kernel
theorem dX4_mean_1 : decode cX4_mean 1 = .ok (.aload_n 0, 1) := by decide +kernel
theorem dX4_mean_2 : decode cX4_mean 2 = .ok (.getfield 28, 3) := by decide +kernel
theorem dX4_mean_5 : decode cX4_mean 5 = .ok (.iload_n 1, 1) := by decide +kernel
theorem dX4_mean_6 : decode cX4_mean 6 = .ok (.iload_n 2, 1) := by decide +kernel
theorem dX4_mean_7 : decode cX4_mean 7 = .ok (.invokevirtual 85, 3) := by decide +kernel
theorem dX4_mean_10 : decode cX4_mean 10 = .ok (.lreturn, 1) := by decide +kernel
set_option maxRecDepth 20000 in
theorem ggX4_tell_X4_isPlayed : GoodIn wsX4_tell wsX4_isPlayed := goodIn_r _ [6, 7, 8, 9, 5, 10, 11, 12, 13, 14, 15, 16, 17, 18, 19, 20, 21] (by decide +kernel) (by decide +kernel)
set_option maxRecDepth 20000 in
theorem gX4_tell_X4_isPlayed : GoodIn wsX4_tell (wsV RX4 95 RX4 yX4_isPlayed wsX4_isPlayed) := goodIn_app (goodIn_of _ (by decide +kernel)) ggX4_tell_X4_isPlayed
set_option maxRecDepth 20000 in
theorem ggX4_tell_X4_within : GoodIn wsX4_tell wsX4_within := goodIn_r _ [10] (by decide +kernel) (by decide +kernel)
set_option maxRecDepth 20000 in
theorem gX4_tell_X4_within : GoodIn wsX4_tell (va_wsS RX4 56 yX4_within wsX4_within) := goodIn_app (goodIn_of _ (by decide +kernel)) ggX4_tell_X4_within
theorem dX4_tell_0 : decode cX4_tell 0 = .ok (.aload_n 0, 1) := by decide +kernel
theorem dX4_tell_1 : decode cX4_tell 1 = .ok (.iload_n 1, 1) := by decide +kernel
theorem dX4_tell_2 : decode cX4_tell 2 = .ok (.invokevirtual 95, 3) := by decide +kernel
theorem dX4_tell_5 : decode cX4_tell 5 = .ok (.ifCond .eq 13, 3) := by decide +kernel
theorem dX4_tell_8 : decode cX4_tell 8 = .ok (.iload_n 2, 1) := by decide +kernel
theorem dX4_tell_9 : decode cX4_tell 9 = .ok (.iconst 0, 1) := by decide +kernel
theorem dX4_tell_10 : decode cX4_tell 10 = .ok (.bipush 32, 2) := by decide +kernel
theorem dX4_tell_12 : decode cX4_tell 12 = .ok (.invokestatic 56, 3) := by decide +kernel
theorem dX4_tell_15 : decode cX4_tell 15 = .ok (.ifCond .ne 5, 3) := by decide +kernel
theorem dX4_tell_18 : decode cX4_tell 18 = .ok (.iconst (-1), 1) := by decide +kernel
theorem dX4_tell_19 : decode cX4_tell 19 = .ok (.ireturn, 1) := by decide +kernel
theorem dX4_tell_20 : decode cX4_tell 20 = .ok (.aload_n 0, 1) := by decide +kernel
theorem dX4_tell_21 : decode cX4_tell 21 = .ok (.getfield 15, 3) := by decide +kernel
theorem dX4_tell_24 : decode cX4_tell 24 = .ok (.iload_n 1, 1) := by decide +kernel
theorem dX4_tell_25 : decode cX4_tell 25 = .ok (.iaload, 1) := by decide +kernel
theorem dX4_tell_26 : decode cX4_tell 26 = .ok (.istore_n 3, 1) := by decide +kernel
theorem dX4_tell_27 : decode cX4_tell 27 = .ok (.aload_n 0, 1) := by decide +kernel
theorem dX4_tell_28 : decode cX4_tell 28 = .ok (.getfield 15, 3) := by decide +kernel
theorem dX4_tell_31 : decode cX4_tell 31 = .ok (.iload_n 1, 1) := by decide +kernel
theorem dX4_tell_32 : decode cX4_tell 32 = .ok (.iload_n 2, 1) := by decide +kernel
theorem dX4_tell_33 : decode cX4_tell 33 = .ok (.iastore, 1) := by decide +kernel
theorem dX4_tell_34 : decode cX4_tell 34 = .ok (.iload_n 3, 1) := by decide +kernel
theorem dX4_tell_35 : decode cX4_tell 35 = .ok (.ireturn, 1) := by decide +kernel
set_option maxRecDepth 20000 in
theorem ggX4_stake_X4_gameAt : GoodIn wsX4_stake wsX4_gameAt := goodIn_r _ [5, 6, 7, 8, 9, 4, 10, 32, 33, 34, 35, 36, 37, 38, 39, 40, 41, 42] (by decide +kernel) (by decide +kernel)
set_option maxRecDepth 20000 in
theorem gX4_stake_X4_gameAt : GoodIn wsX4_stake (wsV RX4 74 RX4 yX4_gameAt wsX4_gameAt) := goodIn_app (goodIn_of _ (by decide +kernel)) ggX4_stake_X4_gameAt
set_option maxRecDepth 20000 in
theorem ggX4_stake_X4_within : GoodIn wsX4_stake wsX4_within := goodIn_r _ [10] (by decide +kernel) (by decide +kernel)
set_option maxRecDepth 20000 in
theorem gX4_stake_X4_within : GoodIn wsX4_stake (va_wsS RX4 56 yX4_within wsX4_within) := goodIn_app (goodIn_of _ (by decide +kernel)) ggX4_stake_X4_within
set_option maxRecDepth 20000 in
theorem ggX4_stake_X4_isPlayed : GoodIn wsX4_stake wsX4_isPlayed := goodIn_r _ [14, 15, 8, 9, 4, 10, 32, 33, 34, 35, 36, 37, 38, 39, 40, 41, 42] (by decide +kernel) (by decide +kernel)
set_option maxRecDepth 20000 in
theorem gX4_stake_X4_isPlayed : GoodIn wsX4_stake (wsV RX4 95 RX4 yX4_isPlayed wsX4_isPlayed) := goodIn_app (goodIn_of _ (by decide +kernel)) ggX4_stake_X4_isPlayed
set_option maxRecDepth 20000 in
theorem ggX4_stake_X4_planned : GoodIn wsX4_stake wsX4_planned := goodIn_r _ [19, 20, 21, 22, 23, 24, 25, 26, 27, 4, 28, 15, 29, 30, 31, 32, 33, 34, 35, 36, 37, 38, 39, 40, 41, 42, 43, 44, 45, 46, 47, 48, 49, 50, 51, 52, 53, 54] (by decide +kernel) (by decide +kernel)
set_option maxRecDepth 20000 in
theorem gX4_stake_X4_planned : GoodIn wsX4_stake (wsV RX4 111 RX4 yX4_planned wsX4_planned) := goodIn_app (goodIn_of _ (by decide +kernel)) ggX4_stake_X4_planned
theorem dX4_stake_0 : decode cX4_stake 0 = .ok (.aload_n 0, 1) := by decide +kernel
theorem dX4_stake_1 : decode cX4_stake 1 = .ok (.iload_n 2, 1) := by decide +kernel
theorem dX4_stake_2 : decode cX4_stake 2 = .ok (.invokevirtual 74, 3) := by decide +kernel
theorem dX4_stake_5 : decode cX4_stake 5 = .ok (.astore 4, 2) := by decide +kernel
theorem dX4_stake_7 : decode cX4_stake 7 = .ok (.aload 4, 2) := by decide +kernel
theorem dX4_stake_9 : decode cX4_stake 9 = .ok (.ifnull 20, 3) := by decide +kernel
theorem dX4_stake_12 : decode cX4_stake 12 = .ok (.iload_n 1, 1) := by decide +kernel
theorem dX4_stake_13 : decode cX4_stake 13 = .ok (.iconst 0, 1) := by decide +kernel
theorem dX4_stake_14 : decode cX4_stake 14 = .ok (.iconst 2, 1) := by decide +kernel
theorem dX4_stake_15 : decode cX4_stake 15 = .ok (.invokestatic 56, 3) := by decide +kernel
theorem dX4_stake_18 : decode cX4_stake 18 = .ok (.ifCond .eq 11, 3) := by decide +kernel
theorem dX4_stake_21 : decode cX4_stake 21 = .ok (.aload_n 0, 1) := by decide +kernel
theorem dX4_stake_22 : decode cX4_stake 22 = .ok (.iload_n 3, 1) := by decide +kernel
theorem dX4_stake_23 : decode cX4_stake 23 = .ok (.invokevirtual 95, 3) := by decide +kernel
theorem dX4_stake_26 : decode cX4_stake 26 = .ok (.ifCond .ne 5, 3) := by decide +kernel
theorem dX4_stake_29 : decode cX4_stake 29 = .ok (.iconst (-1), 1) := by decide +kernel
theorem dX4_stake_30 : decode cX4_stake 30 = .ok (.ireturn, 1) := by decide +kernel
theorem dX4_stake_31 : decode cX4_stake 31 = .ok (.aload_n 0, 1) := by decide +kernel
theorem dX4_stake_32 : decode cX4_stake 32 = .ok (.iload_n 1, 1) := by decide +kernel
theorem dX4_stake_33 : decode cX4_stake 33 = .ok (.aload 4, 2) := by decide +kernel
theorem dX4_stake_35 : decode cX4_stake 35 = .ok (.iload_n 3, 1) := by decide +kernel
theorem dX4_stake_36 : decode cX4_stake 36 = .ok (.iconst 0, 1) := by decide +kernel
theorem dX4_stake_37 : decode cX4_stake 37 = .ok (.invokevirtual 111, 3) := by decide +kernel
theorem dX4_stake_40 : decode cX4_stake 40 = .ok (.ireturn, 1) := by decide +kernel
set_option maxRecDepth 20000 in
theorem ggX4_plan_X4_gameAt : GoodIn wsX4_plan wsX4_gameAt := goodIn_r _ [6, 7, 8, 9, 10, 5, 11, 64, 65, 66, 67, 68, 69, 70, 71, 72, 73, 74] (by decide +kernel) (by decide +kernel)
set_option maxRecDepth 20000 in
theorem gX4_plan_X4_gameAt : GoodIn wsX4_plan (wsV RX4 74 RX4 yX4_gameAt wsX4_gameAt) := goodIn_app (goodIn_of _ (by decide +kernel)) ggX4_plan_X4_gameAt
set_option maxRecDepth 20000 in
theorem ggX4_plan_X4_within : GoodIn wsX4_plan wsX4_within := goodIn_r _ [11] (by decide +kernel) (by decide +kernel)
set_option maxRecDepth 20000 in
theorem gX4_plan_X4_within : GoodIn wsX4_plan (va_wsS RX4 56 yX4_within wsX4_within) := goodIn_app (goodIn_of _ (by decide +kernel)) ggX4_plan_X4_within
set_option maxRecDepth 20000 in
theorem ggX4_plan_X4_isSpot : GoodIn wsX4_plan wsX4_isSpot := goodIn_r _ [15, 16, 17, 9, 10, 5, 11, 64, 65, 66, 67, 68, 69, 70, 71, 72, 73, 74] (by decide +kernel) (by decide +kernel)
set_option maxRecDepth 20000 in
theorem gX4_plan_X4_isSpot : GoodIn wsX4_plan (wsV RX4 89 RX4 yX4_isSpot wsX4_isSpot) := goodIn_app (goodIn_of _ (by decide +kernel)) ggX4_plan_X4_isSpot
set_option maxRecDepth 20000 in
theorem ggX4_plan_X4_planWorth : GoodIn wsX4_plan wsX4_planWorth := goodIn_r _ [21, 22, 23, 24, 25, 26, 27, 28, 29, 5, 30, 16, 31, 32, 33, 34, 35, 9, 10, 11, 36, 37, 38, 39, 40, 41, 42, 43, 44, 45, 46, 47, 48, 49, 50, 51, 52, 53, 54, 55, 56, 57, 58, 59, 60, 61, 62, 63, 64, 65, 66, 67, 68, 69, 70, 71, 72, 73, 74, 75, 76, 77, 78, 79, 80, 81, 82, 83, 84, 85, 86] (by decide +kernel) (by decide +kernel)
set_option maxRecDepth 20000 in
theorem gX4_plan_X4_planWorth : GoodIn wsX4_plan (wsV RX4 115 RX4 yX4_planWorth wsX4_planWorth) := goodIn_app (goodIn_of _ (by decide +kernel)) ggX4_plan_X4_planWorth
theorem dX4_plan_0 : decode cX4_plan 0 = .ok (.aload_n 0, 1) := by decide +kernel
theorem dX4_plan_1 : decode cX4_plan 1 = .ok (.iload_n 2, 1) := by decide +kernel
theorem dX4_plan_2 : decode cX4_plan 2 = .ok (.invokevirtual 74, 3) := by decide +kernel
theorem dX4_plan_5 : decode cX4_plan 5 = .ok (.astore 6, 2) := by decide +kernel
theorem dX4_plan_7 : decode cX4_plan 7 = .ok (.aload 6, 2) := by decide +kernel
theorem dX4_plan_9 : decode cX4_plan 9 = .ok (.ifnull 22, 3) := by decide +kernel
theorem dX4_plan_12 : decode cX4_plan 12 = .ok (.iload_n 1, 1) := by decide +kernel
theorem dX4_plan_13 : decode cX4_plan 13 = .ok (.iconst 0, 1) := by decide +kernel
theorem dX4_plan_14 : decode cX4_plan 14 = .ok (.iconst 3, 1) := by decide +kernel
theorem dX4_plan_15 : decode cX4_plan 15 = .ok (.invokestatic 56, 3) := by decide +kernel
theorem dX4_plan_18 : decode cX4_plan 18 = .ok (.ifCond .eq 13, 3) := by decide +kernel
theorem dX4_plan_21 : decode cX4_plan 21 = .ok (.iload 5, 2) := by decide +kernel
theorem dX4_plan_23 : decode cX4_plan 23 = .ok (.iconst 0, 1) := by decide +kernel
theorem dX4_plan_24 : decode cX4_plan 24 = .ok (.iconst 3, 1) := by decide +kernel
theorem dX4_plan_25 : decode cX4_plan 25 = .ok (.invokestatic 56, 3) := by decide +kernel
theorem dX4_plan_28 : decode cX4_plan 28 = .ok (.ifCond .ne 7, 3) := by decide +kernel
theorem dX4_plan_31 : decode cX4_plan 31 = .ok (.ldc2_w 93, 3) := by decide +kernel
theorem dX4_plan_34 : decode cX4_plan 34 = .ok (.lreturn, 1) := by decide +kernel
theorem dX4_plan_35 : decode cX4_plan 35 = .ok (.aload_n 0, 1) := by decide +kernel
theorem dX4_plan_36 : decode cX4_plan 36 = .ok (.iload_n 3, 1) := by decide +kernel
theorem dX4_plan_37 : decode cX4_plan 37 = .ok (.iload 4, 2) := by decide +kernel
theorem dX4_plan_39 : decode cX4_plan 39 = .ok (.invokevirtual 89, 3) := by decide +kernel
theorem dX4_plan_42 : decode cX4_plan 42 = .ok (.ifCond .ne 7, 3) := by decide +kernel
theorem dX4_plan_45 : decode cX4_plan 45 = .ok (.ldc2_w 93, 3) := by decide +kernel
theorem dX4_plan_48 : decode cX4_plan 48 = .ok (.lreturn, 1) := by decide +kernel
theorem dX4_plan_49 : decode cX4_plan 49 = .ok (.aload_n 0, 1) := by decide +kernel
theorem dX4_plan_50 : decode cX4_plan 50 = .ok (.iload_n 1, 1) := by decide +kernel
theorem dX4_plan_51 : decode cX4_plan 51 = .ok (.aload 6, 2) := by decide +kernel
theorem dX4_plan_53 : decode cX4_plan 53 = .ok (.iload_n 3, 1) := by decide +kernel
theorem dX4_plan_54 : decode cX4_plan 54 = .ok (.iload 4, 2) := by decide +kernel
theorem dX4_plan_56 : decode cX4_plan 56 = .ok (.iload 5, 2) := by decide +kernel
theorem dX4_plan_58 : decode cX4_plan 58 = .ok (.invokevirtual 115, 3) := by decide +kernel
theorem dX4_plan_61 : decode cX4_plan 61 = .ok (.lreturn, 1) := by decide +kernel
set_option maxRecDepth 20000 in
theorem ggX4_bold_X4_gameAt : GoodIn wsX4_bold wsX4_gameAt := goodIn_r _ [6, 7, 8, 9, 10, 5, 11, 87, 88, 89, 90, 91, 92, 93, 94, 95, 96, 97] (by decide +kernel) (by decide +kernel)
set_option maxRecDepth 20000 in
theorem gX4_bold_X4_gameAt : GoodIn wsX4_bold (wsV RX4 74 RX4 yX4_gameAt wsX4_gameAt) := goodIn_app (goodIn_of _ (by decide +kernel)) ggX4_bold_X4_gameAt
set_option maxRecDepth 20000 in
theorem ggX4_bold_X4_isSpot : GoodIn wsX4_bold wsX4_isSpot := goodIn_r _ [15, 16, 17, 9, 10, 5, 11, 87, 88, 89, 90, 91, 92, 93, 94, 95, 96, 97] (by decide +kernel) (by decide +kernel)
set_option maxRecDepth 20000 in
theorem gX4_bold_X4_isSpot : GoodIn wsX4_bold (wsV RX4 89 RX4 yX4_isSpot wsX4_isSpot) := goodIn_app (goodIn_of _ (by decide +kernel)) ggX4_bold_X4_isSpot
set_option maxRecDepth 20000 in
theorem ggX4_bold_X0_cover : GoodIn wsX4_bold wsX0_cover := goodIn_r _ [22, 23, 24, 25, 98, 99, 100, 101, 102] (by decide +kernel) (by decide +kernel)
set_option maxRecDepth 20000 in
theorem gX4_bold_X0_cover : GoodIn wsX4_bold (wsV RX4 99 RX0 yX0_cover wsX0_cover) := goodIn_app (goodIn_of _ (by decide +kernel)) ggX4_bold_X0_cover
set_option maxRecDepth 20000 in
theorem ggX4_bold_X4_chartRow : GoodIn wsX4_bold wsX4_chartRow := goodIn_r _ [29, 16, 30, 31, 32, 5, 33, 34, 35, 36, 37, 38, 39, 40, 41, 42, 43, 44, 45, 46, 9, 10, 11, 2, 3, 4, 6, 7, 8, 47, 48, 49, 50, 51, 52, 53, 54, 55, 56, 57, 58, 59, 60, 61, 62, 63, 98, 99, 100, 101, 102, 87, 88, 89, 90, 91, 92, 93, 94, 95, 96, 97, 103, 104, 105, 106, 107, 108, 109, 110, 111, 112, 113, 114] (by decide +kernel) (by decide +kernel)
set_option maxRecDepth 20000 in
theorem gX4_bold_X4_chartRow : GoodIn wsX4_bold (wsV RX4 103 RX4 yX4_chartRow wsX4_chartRow) := goodIn_app (goodIn_of _ (by decide +kernel)) ggX4_bold_X4_chartRow
set_option maxRecDepth 20000 in
theorem ggX4_bold_X4_planWorth : GoodIn wsX4_bold wsX4_planWorth := goodIn_r _ [67, 54, 55, 41, 56, 68, 69, 70, 71, 5, 72, 16, 73, 43, 44, 45, 46, 9, 10, 11, 74, 75, 76, 77, 78, 79, 80, 81, 82, 51, 52, 53, 30, 31, 32, 33, 83, 84, 85, 86, 38, 57, 58, 59, 60, 61, 62, 63, 87, 88, 89, 90, 91, 92, 93, 94, 95, 96, 97, 103, 104, 105, 106, 107, 108, 109, 110, 111, 112, 113, 114] (by decide +kernel) (by decide +kernel)
set_option maxRecDepth 20000 in
theorem gX4_bold_X4_planWorth : GoodIn wsX4_bold (wsV RX4 115 RX4 yX4_planWorth wsX4_planWorth) := goodIn_app (goodIn_of _ (by decide +kernel)) ggX4_bold_X4_planWorth
theorem dX4_bold_0 : decode cX4_bold 0 = .ok (.aload_n 0, 1) := by decide +kernel
theorem dX4_bold_1 : decode cX4_bold 1 = .ok (.iload_n 1, 1) := by decide +kernel
theorem dX4_bold_2 : decode cX4_bold 2 = .ok (.invokevirtual 74, 3) := by decide +kernel
theorem dX4_bold_5 : decode cX4_bold 5 = .ok (.astore 4, 2) := by decide +kernel
theorem dX4_bold_7 : decode cX4_bold 7 = .ok (.aload 4, 2) := by decide +kernel
theorem dX4_bold_9 : decode cX4_bold 9 = .ok (.ifnull 12, 3) := by decide +kernel
theorem dX4_bold_12 : decode cX4_bold 12 = .ok (.aload_n 0, 1) := by decide +kernel
theorem dX4_bold_13 : decode cX4_bold 13 = .ok (.iload_n 2, 1) := by decide +kernel
theorem dX4_bold_14 : decode cX4_bold 14 = .ok (.iload_n 3, 1) := by decide +kernel
theorem dX4_bold_15 : decode cX4_bold 15 = .ok (.invokevirtual 89, 3) := by decide +kernel
theorem dX4_bold_18 : decode cX4_bold 18 = .ok (.ifCond .ne 5, 3) := by decide +kernel
theorem dX4_bold_21 : decode cX4_bold 21 = .ok (.iconst (-1), 1) := by decide +kernel
theorem dX4_bold_22 : decode cX4_bold 22 = .ok (.ireturn, 1) := by decide +kernel
theorem dX4_bold_23 : decode cX4_bold 23 = .ok (.aload_n 0, 1) := by decide +kernel
theorem dX4_bold_24 : decode cX4_bold 24 = .ok (.getfield 31, 3) := by decide +kernel
theorem dX4_bold_27 : decode cX4_bold 27 = .ok (.iload_n 1, 1) := by decide +kernel
theorem dX4_bold_28 : decode cX4_bold 28 = .ok (.iload_n 1, 1) := by decide +kernel
theorem dX4_bold_29 : decode cX4_bold 29 = .ok (.iconst 1, 1) := by decide +kernel
theorem dX4_bold_30 : decode cX4_bold 30 = .ok (.iadd, 1) := by decide +kernel
theorem dX4_bold_31 : decode cX4_bold 31 = .ok (.invokevirtual 99, 3) := by decide +kernel
theorem dX4_bold_34 : decode cX4_bold 34 = .ok (.aload_n 0, 1) := by decide +kernel
theorem dX4_bold_35 : decode cX4_bold 35 = .ok (.aload_n 0, 1) := by decide +kernel
theorem dX4_bold_36 : decode cX4_bold 36 = .ok (.getfield 31, 3) := by decide +kernel
theorem dX4_bold_39 : decode cX4_bold 39 = .ok (.iload_n 3, 1) := by decide +kernel
theorem dX4_bold_40 : decode cX4_bold 40 = .ok (.invokevirtual 103, 3) := by decide +kernel
theorem dX4_bold_43 : decode cX4_bold 43 = .ok (.iload_n 2, 1) := by decide +kernel
theorem dX4_bold_44 : decode cX4_bold 44 = .ok (.laload, 1) := by decide +kernel
theorem dX4_bold_45 : decode cX4_bold 45 = .ok (.lstore 5, 2) := by decide +kernel
theorem dX4_bold_47 : decode cX4_bold 47 = .ok (.aload_n 0, 1) := by decide +kernel
theorem dX4_bold_48 : decode cX4_bold 48 = .ok (.iconst 0, 1) := by decide +kernel
theorem dX4_bold_49 : decode cX4_bold 49 = .ok (.aload 4, 2) := by decide +kernel
theorem dX4_bold_51 : decode cX4_bold 51 = .ok (.iload_n 2, 1) := by decide +kernel
theorem dX4_bold_52 : decode cX4_bold 52 = .ok (.iload_n 3, 1) := by decide +kernel
theorem dX4_bold_53 : decode cX4_bold 53 = .ok (.iconst 0, 1) := by decide +kernel
theorem dX4_bold_54 : decode cX4_bold 54 = .ok (.invokevirtual 115, 3) := by decide +kernel
theorem dX4_bold_57 : decode cX4_bold 57 = .ok (.lload 5, 2) := by decide +kernel
theorem dX4_bold_59 : decode cX4_bold 59 = .ok (.lcmp, 1) := by decide +kernel
theorem dX4_bold_60 : decode cX4_bold 60 = .ok (.ifCond .ne 7, 3) := by decide +kernel
theorem dX4_bold_63 : decode cX4_bold 63 = .ok (.iconst 1, 1) := by decide +kernel
theorem dX4_bold_64 : decode cX4_bold 64 = .ok (.goto 4, 3) := by decide +kernel
theorem dX4_bold_67 : decode cX4_bold 67 = .ok (.iconst 0, 1) := by decide +kernel
theorem dX4_bold_68 : decode cX4_bold 68 = .ok (.ireturn, 1) := by decide +kernel
theorem dX4_count_0 : decode cX4_count 0 = .ok (.iload_n 1, 1) := by decide +kernel
theorem dX4_count_1 : decode cX4_count 1 = .ok (.tableswitch 42 0 2 #[27, 32, 37], 27) := by decide +kernel
theorem dX4_count_28 : decode cX4_count 28 = .ok (.aload_n 0, 1) := by decide +kernel
theorem dX4_count_29 : decode cX4_count 29 = .ok (.getfield 42, 3) := by decide +kernel
theorem dX4_count_32 : decode cX4_count 32 = .ok (.ireturn, 1) := by decide +kernel
theorem dX4_count_33 : decode cX4_count 33 = .ok (.aload_n 0, 1) := by decide +kernel
theorem dX4_count_34 : decode cX4_count 34 = .ok (.getfield 46, 3) := by decide +kernel
theorem dX4_count_37 : decode cX4_count 37 = .ok (.ireturn, 1) := by decide +kernel
theorem dX4_count_38 : decode cX4_count 38 = .ok (.aload_n 0, 1) := by decide +kernel
theorem dX4_count_39 : decode cX4_count 39 = .ok (.getfield 49, 3) := by decide +kernel
theorem dX4_count_42 : decode cX4_count 42 = .ok (.ireturn, 1) := by decide +kernel
theorem dX4_count_43 : decode cX4_count 43 = .ok (.iconst (-1), 1) := by decide +kernel
theorem dX4_count_44 : decode cX4_count 44 = .ok (.ireturn, 1) := by decide +kernel
theorem dX4_trace_0 : decode cX4_trace 0 = .ok (.aload_n 0, 1) := by decide +kernel
theorem dX4_trace_1 : decode cX4_trace 1 = .ok (.getfield 52, 3) := by decide +kernel
theorem dX4_trace_4 : decode cX4_trace 4 = .ok (.lreturn, 1) := by decide +kernel
theorem dX4_within_0 : decode cX4_within 0 = .ok (.iload_n 0, 1) := by decide +kernel
theorem dX4_within_1 : decode cX4_within 1 = .ok (.iload_n 1, 1) := by decide +kernel
theorem dX4_within_2 : decode cX4_within 2 = .ok (.if_icmp .lt 12, 3) := by decide +kernel
theorem dX4_within_5 : decode cX4_within 5 = .ok (.iload_n 0, 1) := by decide +kernel
theorem dX4_within_6 : decode cX4_within 6 = .ok (.iload_n 2, 1) := by decide +kernel
theorem dX4_within_7 : decode cX4_within 7 = .ok (.if_icmp .gt 7, 3) := by decide +kernel
theorem dX4_within_10 : decode cX4_within 10 = .ok (.iconst 1, 1) := by decide +kernel
theorem dX4_within_11 : decode cX4_within 11 = .ok (.goto 4, 3) := by decide +kernel
theorem dX4_within_14 : decode cX4_within 14 = .ok (.iconst 0, 1) := by decide +kernel
theorem dX4_within_15 : decode cX4_within 15 = .ok (.ireturn, 1) := by decide +kernel
set_option maxRecDepth 20000 in
theorem ggX4_isSpot_X4_within : GoodIn wsX4_isSpot wsX4_within := goodIn_r _ [6] (by decide +kernel) (by decide +kernel)
set_option maxRecDepth 20000 in
theorem gX4_isSpot_X4_within : GoodIn wsX4_isSpot (va_wsS RX4 56 yX4_within wsX4_within) := goodIn_app (goodIn_of _ (by decide +kernel)) ggX4_isSpot_X4_within
theorem dX4_isSpot_0 : decode cX4_isSpot 0 = .ok (.iload_n 1, 1) := by decide +kernel
theorem dX4_isSpot_1 : decode cX4_isSpot 1 = .ok (.iconst 0, 1) := by decide +kernel
theorem dX4_isSpot_2 : decode cX4_isSpot 2 = .ok (.aload_n 0, 1) := by decide +kernel
theorem dX4_isSpot_3 : decode cX4_isSpot 3 = .ok (.getfield 42, 3) := by decide +kernel
theorem dX4_isSpot_6 : decode cX4_isSpot 6 = .ok (.invokestatic 56, 3) := by decide +kernel
theorem dX4_isSpot_9 : decode cX4_isSpot 9 = .ok (.ifCond .eq 19, 3) := by decide +kernel
theorem dX4_isSpot_12 : decode cX4_isSpot 12 = .ok (.iload_n 2, 1) := by decide +kernel
theorem dX4_isSpot_13 : decode cX4_isSpot 13 = .ok (.iconst 0, 1) := by decide +kernel
theorem dX4_isSpot_14 : decode cX4_isSpot 14 = .ok (.aload_n 0, 1) := by decide +kernel
theorem dX4_isSpot_15 : decode cX4_isSpot 15 = .ok (.getfield 46, 3) := by decide +kernel
theorem dX4_isSpot_18 : decode cX4_isSpot 18 = .ok (.invokestatic 56, 3) := by decide +kernel
theorem dX4_isSpot_21 : decode cX4_isSpot 21 = .ok (.ifCond .eq 7, 3) := by decide +kernel
theorem dX4_isSpot_24 : decode cX4_isSpot 24 = .ok (.iconst 1, 1) := by decide +kernel
theorem dX4_isSpot_25 : decode cX4_isSpot 25 = .ok (.goto 4, 3) := by decide +kernel
theorem dX4_isSpot_28 : decode cX4_isSpot 28 = .ok (.iconst 0, 1) := by decide +kernel
theorem dX4_isSpot_29 : decode cX4_isSpot 29 = .ok (.ireturn, 1) := by decide +kernel
set_option maxRecDepth 20000 in
theorem ggX4_isPlayed_X4_within : GoodIn wsX4_isPlayed wsX4_within := goodIn_r _ [5] (by decide +kernel) (by decide +kernel)
set_option maxRecDepth 20000 in
theorem gX4_isPlayed_X4_within : GoodIn wsX4_isPlayed (va_wsS RX4 56 yX4_within wsX4_within) := goodIn_app (goodIn_of _ (by decide +kernel)) ggX4_isPlayed_X4_within
theorem dX4_isPlayed_0 : decode cX4_isPlayed 0 = .ok (.iload_n 1, 1) := by decide +kernel
theorem dX4_isPlayed_1 : decode cX4_isPlayed 1 = .ok (.iconst 1, 1) := by decide +kernel
theorem dX4_isPlayed_2 : decode cX4_isPlayed 2 = .ok (.aload_n 0, 1) := by decide +kernel
theorem dX4_isPlayed_3 : decode cX4_isPlayed 3 = .ok (.getfield 42, 3) := by decide +kernel
theorem dX4_isPlayed_6 : decode cX4_isPlayed 6 = .ok (.iconst 1, 1) := by decide +kernel
theorem dX4_isPlayed_7 : decode cX4_isPlayed 7 = .ok (.isub, 1) := by decide +kernel
theorem dX4_isPlayed_8 : decode cX4_isPlayed 8 = .ok (.invokestatic 56, 3) := by decide +kernel
theorem dX4_isPlayed_11 : decode cX4_isPlayed 11 = .ok (.ireturn, 1) := by decide +kernel
set_option maxRecDepth 20000 in
theorem ggX4_gameAt_X4_within : GoodIn wsX4_gameAt wsX4_within := goodIn_r _ [6] (by decide +kernel) (by decide +kernel)
set_option maxRecDepth 20000 in
theorem gX4_gameAt_X4_within : GoodIn wsX4_gameAt (va_wsS RX4 56 yX4_within wsX4_within) := goodIn_app (goodIn_of _ (by decide +kernel)) ggX4_gameAt_X4_within
theorem dX4_gameAt_0 : decode cX4_gameAt 0 = .ok (.iload_n 1, 1) := by decide +kernel
theorem dX4_gameAt_1 : decode cX4_gameAt 1 = .ok (.iconst 0, 1) := by decide +kernel
theorem dX4_gameAt_2 : decode cX4_gameAt 2 = .ok (.aload_n 0, 1) := by decide +kernel
theorem dX4_gameAt_3 : decode cX4_gameAt 3 = .ok (.getfield 49, 3) := by decide +kernel
theorem dX4_gameAt_6 : decode cX4_gameAt 6 = .ok (.iconst 1, 1) := by decide +kernel
theorem dX4_gameAt_7 : decode cX4_gameAt 7 = .ok (.isub, 1) := by decide +kernel
theorem dX4_gameAt_8 : decode cX4_gameAt 8 = .ok (.invokestatic 56, 3) := by decide +kernel
theorem dX4_gameAt_11 : decode cX4_gameAt 11 = .ok (.ifCond .eq 12, 3) := by decide +kernel
theorem dX4_gameAt_14 : decode cX4_gameAt 14 = .ok (.aload_n 0, 1) := by decide +kernel
theorem dX4_gameAt_15 : decode cX4_gameAt 15 = .ok (.getfield 11, 3) := by decide +kernel
theorem dX4_gameAt_18 : decode cX4_gameAt 18 = .ok (.iload_n 1, 1) := by decide +kernel
theorem dX4_gameAt_19 : decode cX4_gameAt 19 = .ok (.aaload, 1) := by decide +kernel
theorem dX4_gameAt_20 : decode cX4_gameAt 20 = .ok (.goto 4, 3) := by decide +kernel
theorem dX4_gameAt_23 : decode cX4_gameAt 23 = .ok (.aconst_null, 1) := by decide +kernel
theorem dX4_gameAt_24 : decode cX4_gameAt 24 = .ok (.areturn, 1) := by decide +kernel
set_option maxRecDepth 20000 in
theorem ggX4_changeGoal_X4_forgetCharts : GoodIn wsX4_changeGoal wsX4_forgetCharts := goodIn_r _ [7, 8, 9, 10, 11, 12, 13, 14, 15, 16, 17, 18, 19, 20, 21, 22, 23, 24, 25, 26, 27, 28, 29, 30, 31, 32] (by decide +kernel) (by decide +kernel)
set_option maxRecDepth 20000 in
theorem gX4_changeGoal_X4_forgetCharts : GoodIn wsX4_changeGoal (wsV RX4 71 RX4 yX4_forgetCharts wsX4_forgetCharts) := goodIn_app (goodIn_of _ (by decide +kernel)) ggX4_changeGoal_X4_forgetCharts
theorem dX4_changeGoal_0 : decode cX4_changeGoal 0 = .ok (.aload_n 0, 1) := by decide +kernel
theorem dX4_changeGoal_1 : decode cX4_changeGoal 1 = .ok (.getfield 42, 3) := by decide +kernel
theorem dX4_changeGoal_4 : decode cX4_changeGoal 4 = .ok (.istore_n 2, 1) := by decide +kernel
theorem dX4_changeGoal_5 : decode cX4_changeGoal 5 = .ok (.aload_n 0, 1) := by decide +kernel
theorem dX4_changeGoal_6 : decode cX4_changeGoal 6 = .ok (.iload_n 1, 1) := by decide +kernel
theorem dX4_changeGoal_7 : decode cX4_changeGoal 7 = .ok (.putfield 42, 3) := by decide +kernel
theorem dX4_changeGoal_10 : decode cX4_changeGoal 10 = .ok (.iconst 0, 1) := by decide +kernel
theorem dX4_changeGoal_11 : decode cX4_changeGoal 11 = .ok (.istore_n 3, 1) := by decide +kernel
theorem dX4_changeGoal_12 : decode cX4_changeGoal 12 = .ok (.iload_n 3, 1) := by decide +kernel
theorem dX4_changeGoal_13 : decode cX4_changeGoal 13 = .ok (.bipush 33, 2) := by decide +kernel
theorem dX4_changeGoal_15 : decode cX4_changeGoal 15 = .ok (.if_icmp .ge 16, 3) := by decide +kernel
theorem dX4_changeGoal_18 : decode cX4_changeGoal 18 = .ok (.aload_n 0, 1) := by decide +kernel
theorem dX4_changeGoal_19 : decode cX4_changeGoal 19 = .ok (.getfield 15, 3) := by decide +kernel
theorem dX4_changeGoal_22 : decode cX4_changeGoal 22 = .ok (.iload_n 3, 1) := by decide +kernel
theorem dX4_changeGoal_23 : decode cX4_changeGoal 23 = .ok (.iconst 0, 1) := by decide +kernel
theorem dX4_changeGoal_24 : decode cX4_changeGoal 24 = .ok (.iastore, 1) := by decide +kernel
theorem dX4_changeGoal_25 : decode cX4_changeGoal 25 = .ok (.iinc 3 1, 3) := by decide +kernel
theorem dX4_changeGoal_28 : decode cX4_changeGoal 28 = .ok (.goto (-16), 3) := by decide +kernel
theorem dX4_changeGoal_31 : decode cX4_changeGoal 31 = .ok (.aload_n 0, 1) := by decide +kernel
theorem dX4_changeGoal_32 : decode cX4_changeGoal 32 = .ok (.invokevirtual 71, 3) := by decide +kernel
theorem dX4_changeGoal_35 : decode cX4_changeGoal 35 = .ok (.iload_n 2, 1) := by decide +kernel
theorem dX4_changeGoal_36 : decode cX4_changeGoal 36 = .ok (.ireturn, 1) := by decide +kernel
set_option maxRecDepth 20000 in
theorem ggX4_forgetCharts_X0_forget : GoodIn wsX4_forgetCharts wsX0_forget := goodIn_r _ [8, 9, 21, 22, 23, 24, 25] (by decide +kernel) (by decide +kernel)
set_option maxRecDepth 20000 in
theorem gX4_forgetCharts_X0_forget : GoodIn wsX4_forgetCharts (wsV RX4 119 RX0 yX0_forget wsX0_forget) := goodIn_app (goodIn_of _ (by decide +kernel)) ggX4_forgetCharts_X0_forget
theorem dX4_forgetCharts_0 : decode cX4_forgetCharts 0 = .ok (.aload_n 0, 1) := by decide +kernel
theorem dX4_forgetCharts_1 : decode cX4_forgetCharts 1 = .ok (.getfield 24, 3) := by decide +kernel
theorem dX4_forgetCharts_4 : decode cX4_forgetCharts 4 = .ok (.invokevirtual 119, 3) := by decide +kernel
theorem dX4_forgetCharts_7 : decode cX4_forgetCharts 7 = .ok (.aload_n 0, 1) := by decide +kernel
theorem dX4_forgetCharts_8 : decode cX4_forgetCharts 8 = .ok (.getfield 28, 3) := by decide +kernel
theorem dX4_forgetCharts_11 : decode cX4_forgetCharts 11 = .ok (.invokevirtual 119, 3) := by decide +kernel
theorem dX4_forgetCharts_14 : decode cX4_forgetCharts 14 = .ok (.aload_n 0, 1) := by decide +kernel
theorem dX4_forgetCharts_15 : decode cX4_forgetCharts 15 = .ok (.getfield 31, 3) := by decide +kernel
theorem dX4_forgetCharts_18 : decode cX4_forgetCharts 18 = .ok (.invokevirtual 119, 3) := by decide +kernel
theorem dX4_forgetCharts_21 : decode cX4_forgetCharts 21 = .ok (.return_, 1) := by decide +kernel
set_option maxRecDepth 20000 in
theorem ggX4_newGame_X3_init : GoodIn wsX4_newGame wsX3_init := goodIn_r _ [12, 13, 14, 15, 6, 16, 17, 18, 19, 9, 20, 21, 22, 23, 24, 25, 26, 27, 30, 31, 32, 33, 34, 35, 36, 37, 38, 39, 40, 41] (by decide +kernel) (by decide +kernel)
set_option maxRecDepth 20000 in
theorem gX4_newGame_X3_init : GoodIn wsX4_newGame (wsX3_init) := ggX4_newGame_X3_init
set_option maxRecDepth 20000 in
theorem ggX4_newGame_X2_init : GoodIn wsX4_newGame wsX2_init := goodIn_r _ [16, 17, 18, 19, 9, 20, 21, 22, 23, 24, 25, 26, 27, 35, 36, 37, 38, 30, 31, 32, 33, 34, 39, 40, 41] (by decide +kernel) (by decide +kernel)
set_option maxRecDepth 20000 in
theorem gX4_newGame_X2_init : GoodIn wsX4_newGame (wsX2_init) := ggX4_newGame_X2_init
set_option maxRecDepth 20000 in
theorem ggX4_newGame_X1_init : GoodIn wsX4_newGame wsX1_init := goodIn_r _ [20, 21, 22, 23, 24, 25, 26, 27, 39, 40, 41, 35, 36, 37, 38, 30, 31, 32, 33, 34] (by decide +kernel) (by decide +kernel)
set_option maxRecDepth 20000 in
theorem gX4_newGame_X1_init : GoodIn wsX4_newGame (wsX1_init) := ggX4_newGame_X1_init
theorem dX4_newGame_0 : decode cX4_newGame 0 = .ok (.iload_n 0, 1) := by decide +kernel
theorem dX4_newGame_1 : decode cX4_newGame 1 = .ok (.iconst 2, 1) := by decide +kernel
theorem dX4_newGame_2 : decode cX4_newGame 2 = .ok (.if_icmp .ne 16, 3) := by decide +kernel
theorem dX4_newGame_5 : decode cX4_newGame 5 = .ok (.new 122, 3) := by decide +kernel
theorem dX4_newGame_8 : decode cX4_newGame 8 = .ok (.dup, 1) := by decide +kernel
theorem dX4_newGame_9 : decode cX4_newGame 9 = .ok (.iload_n 1, 1) := by decide +kernel
theorem dX4_newGame_10 : decode cX4_newGame 10 = .ok (.iload 4, 2) := by decide +kernel
theorem dX4_newGame_12 : decode cX4_newGame 12 = .ok (.iload_n 2, 1) := by decide +kernel
theorem dX4_newGame_13 : decode cX4_newGame 13 = .ok (.iload_n 3, 1) := by decide +kernel
theorem dX4_newGame_14 : decode cX4_newGame 14 = .ok (.invokespecial 124, 3) := by decide +kernel
theorem dX4_newGame_17 : decode cX4_newGame 17 = .ok (.areturn, 1) := by decide +kernel
theorem dX4_newGame_18 : decode cX4_newGame 18 = .ok (.iload_n 0, 1) := by decide +kernel
theorem dX4_newGame_19 : decode cX4_newGame 19 = .ok (.iconst 1, 1) := by decide +kernel
theorem dX4_newGame_20 : decode cX4_newGame 20 = .ok (.if_icmp .ne 15, 3) := by decide +kernel
theorem dX4_newGame_23 : decode cX4_newGame 23 = .ok (.new 127, 3) := by decide +kernel
theorem dX4_newGame_26 : decode cX4_newGame 26 = .ok (.dup, 1) := by decide +kernel
theorem dX4_newGame_27 : decode cX4_newGame 27 = .ok (.iload_n 1, 1) := by decide +kernel
theorem dX4_newGame_28 : decode cX4_newGame 28 = .ok (.iload 4, 2) := by decide +kernel
theorem dX4_newGame_30 : decode cX4_newGame 30 = .ok (.iload_n 2, 1) := by decide +kernel
theorem dX4_newGame_31 : decode cX4_newGame 31 = .ok (.invokespecial 129, 3) := by decide +kernel
theorem dX4_newGame_34 : decode cX4_newGame 34 = .ok (.areturn, 1) := by decide +kernel
theorem dX4_newGame_35 : decode cX4_newGame 35 = .ok (.new 9, 3) := by decide +kernel
theorem dX4_newGame_38 : decode cX4_newGame 38 = .ok (.dup, 1) := by decide +kernel
theorem dX4_newGame_39 : decode cX4_newGame 39 = .ok (.iload_n 1, 1) := by decide +kernel
theorem dX4_newGame_40 : decode cX4_newGame 40 = .ok (.iload 4, 2) := by decide +kernel
theorem dX4_newGame_42 : decode cX4_newGame 42 = .ok (.invokespecial 132, 3) := by decide +kernel
theorem dX4_newGame_45 : decode cX4_newGame 45 = .ok (.areturn, 1) := by decide +kernel
theorem dX4_mostStake_0 : decode cX4_mostStake 0 = .ok (.iload_n 1, 1) := by decide +kernel
theorem dX4_mostStake_1 : decode cX4_mostStake 1 = .ok (.aload_n 0, 1) := by decide +kernel
theorem dX4_mostStake_2 : decode cX4_mostStake 2 = .ok (.getfield 134, 3) := by decide +kernel
theorem dX4_mostStake_5 : decode cX4_mostStake 5 = .ok (.invokestatic 137, 3) := by decide +kernel
theorem dX4_mostStake_8 : decode cX4_mostStake 8 = .ok (.ireturn, 1) := by decide +kernel
theorem dX4_raised_0 : decode cX4_raised 0 = .ok (.aload_n 0, 1) := by decide +kernel
theorem dX4_raised_1 : decode cX4_raised 1 = .ok (.getfield 42, 3) := by decide +kernel
theorem dX4_raised_4 : decode cX4_raised 4 = .ok (.iload_n 2, 1) := by decide +kernel
theorem dX4_raised_5 : decode cX4_raised 5 = .ok (.aload_n 1, 1) := by decide +kernel
theorem dX4_raised_6 : decode cX4_raised 6 = .ok (.getfield 143, 3) := by decide +kernel
theorem dX4_raised_9 : decode cX4_raised 9 = .ok (.iload_n 3, 1) := by decide +kernel
theorem dX4_raised_10 : decode cX4_raised 10 = .ok (.iaload, 1) := by decide +kernel
theorem dX4_raised_11 : decode cX4_raised 11 = .ok (.iadd, 1) := by decide +kernel
theorem dX4_raised_12 : decode cX4_raised 12 = .ok (.invokestatic 137, 3) := by decide +kernel
theorem dX4_raised_15 : decode cX4_raised 15 = .ok (.ireturn, 1) := by decide +kernel
theorem dX4_mixed_0 : decode cX4_mixed 0 = .ok (.aload_n 0, 1) := by decide +kernel
theorem dX4_mixed_1 : decode cX4_mixed 1 = .ok (.getfield 146, 3) := by decide +kernel
theorem dX4_mixed_4 : decode cX4_mixed 4 = .ok (.i2l, 1) := by decide +kernel
theorem dX4_mixed_5 : decode cX4_mixed 5 = .ok (.lload_n 1, 1) := by decide +kernel
theorem dX4_mixed_6 : decode cX4_mixed 6 = .ok (.lmul, 1) := by decide +kernel
theorem dX4_mixed_7 : decode cX4_mixed 7 = .ok (.bipush 16, 2) := by decide +kernel
theorem dX4_mixed_9 : decode cX4_mixed 9 = .ok (.aload_n 0, 1) := by decide +kernel
theorem dX4_mixed_10 : decode cX4_mixed 10 = .ok (.getfield 146, 3) := by decide +kernel
theorem dX4_mixed_13 : decode cX4_mixed 13 = .ok (.isub, 1) := by decide +kernel
theorem dX4_mixed_14 : decode cX4_mixed 14 = .ok (.i2l, 1) := by decide +kernel
theorem dX4_mixed_15 : decode cX4_mixed 15 = .ok (.lload_n 3, 1) := by decide +kernel
theorem dX4_mixed_16 : decode cX4_mixed 16 = .ok (.lmul, 1) := by decide +kernel
theorem dX4_mixed_17 : decode cX4_mixed 17 = .ok (.ladd, 1) := by decide +kernel
theorem dX4_mixed_18 : decode cX4_mixed 18 = .ok (.lreturn, 1) := by decide +kernel
theorem dX4_endWorth_0 : decode cX4_endWorth 0 = .ok (.iload_n 1, 1) := by decide +kernel
theorem dX4_endWorth_1 : decode cX4_endWorth 1 = .ok (.tableswitch 54 0 2 #[27, 41, 51], 27) := by decide +kernel
theorem dX4_endWorth_28 : decode cX4_endWorth 28 = .ok (.iload_n 2, 1) := by decide +kernel
theorem dX4_endWorth_29 : decode cX4_endWorth 29 = .ok (.aload_n 0, 1) := by decide +kernel
theorem dX4_endWorth_30 : decode cX4_endWorth 30 = .ok (.getfield 42, 3) := by decide +kernel
theorem dX4_endWorth_33 : decode cX4_endWorth 33 = .ok (.if_icmp .ne 7, 3) := by decide +kernel
theorem dX4_endWorth_36 : decode cX4_endWorth 36 = .ok (.lconst 1, 1) := by decide +kernel
theorem dX4_endWorth_37 : decode cX4_endWorth 37 = .ok (.goto 4, 3) := by decide +kernel
theorem dX4_endWorth_40 : decode cX4_endWorth 40 = .ok (.lconst 0, 1) := by decide +kernel
theorem dX4_endWorth_41 : decode cX4_endWorth 41 = .ok (.lreturn, 1) := by decide +kernel
theorem dX4_endWorth_42 : decode cX4_endWorth 42 = .ok (.iload_n 2, 1) := by decide +kernel
theorem dX4_endWorth_43 : decode cX4_endWorth 43 = .ok (.ifCond .ne 7, 3) := by decide +kernel
theorem dX4_endWorth_46 : decode cX4_endWorth 46 = .ok (.lconst 1, 1) := by decide +kernel
theorem dX4_endWorth_47 : decode cX4_endWorth 47 = .ok (.goto 4, 3) := by decide +kernel
theorem dX4_endWorth_50 : decode cX4_endWorth 50 = .ok (.lconst 0, 1) := by decide +kernel
theorem dX4_endWorth_51 : decode cX4_endWorth 51 = .ok (.lreturn, 1) := by decide +kernel
theorem dX4_endWorth_52 : decode cX4_endWorth 52 = .ok (.iload_n 2, 1) := by decide +kernel
theorem dX4_endWorth_53 : decode cX4_endWorth 53 = .ok (.i2l, 1) := by decide +kernel
theorem dX4_endWorth_54 : decode cX4_endWorth 54 = .ok (.lreturn, 1) := by decide +kernel
theorem dX4_endWorth_55 : decode cX4_endWorth 55 = .ok (.lconst 0, 1) := by decide +kernel
theorem dX4_endWorth_56 : decode cX4_endWorth 56 = .ok (.lreturn, 1) := by decide +kernel
set_option maxRecDepth 20000 in
theorem ggX4_greatestFrom_X4_isSpot : GoodIn wsX4_greatestFrom wsX4_isSpot := goodIn_r _ [8, 9, 10, 11, 12, 7, 13, 65, 66, 67, 68, 69, 70, 71, 72, 73, 74, 75] (by decide +kernel) (by decide +kernel)
set_option maxRecDepth 20000 in
theorem gX4_greatestFrom_X4_isSpot : GoodIn wsX4_greatestFrom (wsV RX4 89 RX4 yX4_isSpot wsX4_isSpot) := goodIn_app (goodIn_of _ (by decide +kernel)) ggX4_greatestFrom_X4_isSpot
set_option maxRecDepth 20000 in
theorem ggX4_greatestFrom_X0_cover : GoodIn wsX4_greatestFrom wsX0_cover := goodIn_r _ [18, 19, 20, 21, 76, 77, 78, 79, 80] (by decide +kernel) (by decide +kernel)
set_option maxRecDepth 20000 in
theorem gX4_greatestFrom_X0_cover : GoodIn wsX4_greatestFrom (wsV RX4 99 RX0 yX0_cover wsX0_cover) := goodIn_app (goodIn_of _ (by decide +kernel)) ggX4_greatestFrom_X0_cover
set_option maxRecDepth 20000 in
theorem ggX4_greatestFrom_X4_chartRow : GoodIn wsX4_greatestFrom wsX4_chartRow := goodIn_r _ [25, 9, 26, 27, 28, 7, 29, 30, 31, 32, 33, 34, 35, 36, 37, 38, 39, 40, 41, 42, 11, 12, 13, 43, 44, 45, 46, 2, 47, 48, 49, 50, 51, 52, 53, 54, 55, 56, 57, 58, 59, 60, 61, 62, 63, 64, 76, 77, 78, 79, 80, 65, 66, 67, 68, 69, 70, 71, 72, 73, 74, 75, 81, 82, 83, 84, 85, 86, 87, 88, 89, 90, 91, 92] (by decide +kernel) (by decide +kernel)
set_option maxRecDepth 20000 in
theorem gX4_greatestFrom_X4_chartRow : GoodIn wsX4_greatestFrom (wsV RX4 103 RX4 yX4_chartRow wsX4_chartRow) := goodIn_app (goodIn_of _ (by decide +kernel)) ggX4_greatestFrom_X4_chartRow
theorem dX4_greatestFrom_0 : decode cX4_greatestFrom 0 = .ok (.aload_n 0, 1) := by decide +kernel
theorem dX4_greatestFrom_1 : decode cX4_greatestFrom 1 = .ok (.iload_n 2, 1) := by decide +kernel
theorem dX4_greatestFrom_2 : decode cX4_greatestFrom 2 = .ok (.iload_n 3, 1) := by decide +kernel
theorem dX4_greatestFrom_3 : decode cX4_greatestFrom 3 = .ok (.invokevirtual 89, 3) := by decide +kernel
theorem dX4_greatestFrom_6 : decode cX4_greatestFrom 6 = .ok (.ifCond .ne 7, 3) := by decide +kernel
theorem dX4_greatestFrom_9 : decode cX4_greatestFrom 9 = .ok (.ldc2_w 93, 3) := by decide +kernel
theorem dX4_greatestFrom_12 : decode cX4_greatestFrom 12 = .ok (.lreturn, 1) := by decide +kernel
theorem dX4_greatestFrom_13 : decode cX4_greatestFrom 13 = .ok (.aload_n 0, 1) := by decide +kernel
theorem dX4_greatestFrom_14 : decode cX4_greatestFrom 14 = .ok (.getfield 49, 3) := by decide +kernel
theorem dX4_greatestFrom_17 : decode cX4_greatestFrom 17 = .ok (.iconst 1, 1) := by decide +kernel
theorem dX4_greatestFrom_18 : decode cX4_greatestFrom 18 = .ok (.if_icmp .ge 7, 3) := by decide +kernel
theorem dX4_greatestFrom_21 : decode cX4_greatestFrom 21 = .ok (.ldc2_w 149, 3) := by decide +kernel
theorem dX4_greatestFrom_24 : decode cX4_greatestFrom 24 = .ok (.lreturn, 1) := by decide +kernel
theorem dX4_greatestFrom_25 : decode cX4_greatestFrom 25 = .ok (.aload_n 1, 1) := by decide +kernel
theorem dX4_greatestFrom_26 : decode cX4_greatestFrom 26 = .ok (.iconst 0, 1) := by decide +kernel
theorem dX4_greatestFrom_27 : decode cX4_greatestFrom 27 = .ok (.aload_n 0, 1) := by decide +kernel
theorem dX4_greatestFrom_28 : decode cX4_greatestFrom 28 = .ok (.getfield 49, 3) := by decide +kernel
theorem dX4_greatestFrom_31 : decode cX4_greatestFrom 31 = .ok (.invokevirtual 99, 3) := by decide +kernel
theorem dX4_greatestFrom_34 : decode cX4_greatestFrom 34 = .ok (.aload_n 0, 1) := by decide +kernel
theorem dX4_greatestFrom_35 : decode cX4_greatestFrom 35 = .ok (.aload_n 1, 1) := by decide +kernel
theorem dX4_greatestFrom_36 : decode cX4_greatestFrom 36 = .ok (.iload_n 3, 1) := by decide +kernel
theorem dX4_greatestFrom_37 : decode cX4_greatestFrom 37 = .ok (.invokevirtual 103, 3) := by decide +kernel
theorem dX4_greatestFrom_40 : decode cX4_greatestFrom 40 = .ok (.iload_n 2, 1) := by decide +kernel
theorem dX4_greatestFrom_41 : decode cX4_greatestFrom 41 = .ok (.laload, 1) := by decide +kernel
theorem dX4_greatestFrom_42 : decode cX4_greatestFrom 42 = .ok (.lreturn, 1) := by decide +kernel
set_option maxRecDepth 20000 in
theorem ggX4_chartRow_X4_endWorth : GoodIn wsX4_chartRow wsX4_endWorth := goodIn_r _ [6, 1, 51, 52, 53, 54, 55, 56, 57, 58, 59, 60, 61] (by decide +kernel) (by decide +kernel)
set_option maxRecDepth 20000 in
theorem gX4_chartRow_X4_endWorth : GoodIn wsX4_chartRow (wsV RX4 160 RX4 yX4_endWorth wsX4_endWorth) := goodIn_app (goodIn_of _ (by decide +kernel)) ggX4_chartRow_X4_endWorth
set_option maxRecDepth 20000 in
theorem ggX4_chartRow_X4_greatestTurn : GoodIn wsX4_chartRow wsX4_greatestTurn := goodIn_r _ [10, 11, 12, 13, 14, 15, 16, 17, 18, 5, 19, 1, 20, 21, 22, 23, 24, 25, 26, 27, 28, 29, 30, 31, 32, 33, 34, 35, 36, 37, 38, 39, 40, 41, 42, 43, 44, 45, 46, 47, 48, 49, 50, 51, 52, 53, 54, 55, 56, 57, 58, 59, 60, 61, 62, 63, 64, 65, 66, 67, 68, 69, 70, 71, 72, 73] (by decide +kernel) (by decide +kernel)
set_option maxRecDepth 20000 in
theorem gX4_chartRow_X4_greatestTurn : GoodIn wsX4_chartRow (wsV RX4 164 RX4 yX4_greatestTurn wsX4_greatestTurn) := goodIn_app (goodIn_of _ (by decide +kernel)) ggX4_chartRow_X4_greatestTurn
theorem dX4_chartRow_0 : decode cX4_chartRow 0 = .ok (.aload_n 1, 1) := by decide +kernel
theorem dX4_chartRow_1 : decode cX4_chartRow 1 = .ok (.getfield 151, 3) := by decide +kernel
theorem dX4_chartRow_4 : decode cX4_chartRow 4 = .ok (.istore_n 3, 1) := by decide +kernel
theorem dX4_chartRow_5 : decode cX4_chartRow 5 = .ok (.iload_n 3, 1) := by decide +kernel
theorem dX4_chartRow_6 : decode cX4_chartRow 6 = .ok (.iload_n 2, 1) := by decide +kernel
theorem dX4_chartRow_7 : decode cX4_chartRow 7 = .ok (.if_icmp .gt 76, 3) := by decide +kernel
theorem dX4_chartRow_10 : decode cX4_chartRow 10 = .ok (.iconst 0, 1) := by decide +kernel
theorem dX4_chartRow_11 : decode cX4_chartRow 11 = .ok (.istore 4, 2) := by decide +kernel
theorem dX4_chartRow_13 : decode cX4_chartRow 13 = .ok (.iload 4, 2) := by decide +kernel
theorem dX4_chartRow_15 : decode cX4_chartRow 15 = .ok (.aload_n 0, 1) := by decide +kernel
theorem dX4_chartRow_16 : decode cX4_chartRow 16 = .ok (.getfield 42, 3) := by decide +kernel
theorem dX4_chartRow_19 : decode cX4_chartRow 19 = .ok (.if_icmp .gt 51, 3) := by decide +kernel
theorem dX4_chartRow_22 : decode cX4_chartRow 22 = .ok (.aload_n 1, 1) := by decide +kernel
theorem dX4_chartRow_23 : decode cX4_chartRow 23 = .ok (.getfield 154, 3) := by decide +kernel
theorem dX4_chartRow_26 : decode cX4_chartRow 26 = .ok (.iload_n 3, 1) := by decide +kernel
theorem dX4_chartRow_27 : decode cX4_chartRow 27 = .ok (.aaload, 1) := by decide +kernel
theorem dX4_chartRow_28 : decode cX4_chartRow 28 = .ok (.iload 4, 2) := by decide +kernel
theorem dX4_chartRow_30 : decode cX4_chartRow 30 = .ok (.iload_n 3, 1) := by decide +kernel
theorem dX4_chartRow_31 : decode cX4_chartRow 31 = .ok (.iconst 1, 1) := by decide +kernel
theorem dX4_chartRow_32 : decode cX4_chartRow 32 = .ok (.if_icmp .ge 16, 3) := by decide +kernel
theorem dX4_chartRow_35 : decode cX4_chartRow 35 = .ok (.aload_n 0, 1) := by decide +kernel
theorem dX4_chartRow_36 : decode cX4_chartRow 36 = .ok (.aload_n 1, 1) := by decide +kernel
theorem dX4_chartRow_37 : decode cX4_chartRow 37 = .ok (.getfield 157, 3) := by decide +kernel
theorem dX4_chartRow_40 : decode cX4_chartRow 40 = .ok (.iload 4, 2) := by decide +kernel
theorem dX4_chartRow_42 : decode cX4_chartRow 42 = .ok (.invokevirtual 160, 3) := by decide +kernel
theorem dX4_chartRow_45 : decode cX4_chartRow 45 = .ok (.goto 18, 3) := by decide +kernel
theorem dX4_chartRow_48 : decode cX4_chartRow 48 = .ok (.aload_n 0, 1) := by decide +kernel
theorem dX4_chartRow_49 : decode cX4_chartRow 49 = .ok (.aload_n 1, 1) := by decide +kernel
theorem dX4_chartRow_50 : decode cX4_chartRow 50 = .ok (.aload_n 1, 1) := by decide +kernel
theorem dX4_chartRow_51 : decode cX4_chartRow 51 = .ok (.getfield 154, 3) := by decide +kernel
theorem dX4_chartRow_54 : decode cX4_chartRow 54 = .ok (.iload_n 3, 1) := by decide +kernel
theorem dX4_chartRow_55 : decode cX4_chartRow 55 = .ok (.iconst 1, 1) := by decide +kernel
theorem dX4_chartRow_56 : decode cX4_chartRow 56 = .ok (.isub, 1) := by decide +kernel
theorem dX4_chartRow_57 : decode cX4_chartRow 57 = .ok (.aaload, 1) := by decide +kernel
theorem dX4_chartRow_58 : decode cX4_chartRow 58 = .ok (.iload 4, 2) := by decide +kernel
theorem dX4_chartRow_60 : decode cX4_chartRow 60 = .ok (.invokevirtual 164, 3) := by decide +kernel
theorem dX4_chartRow_63 : decode cX4_chartRow 63 = .ok (.lastore, 1) := by decide +kernel
theorem dX4_chartRow_64 : decode cX4_chartRow 64 = .ok (.iinc 4 1, 3) := by decide +kernel
theorem dX4_chartRow_67 : decode cX4_chartRow 67 = .ok (.goto (-54), 3) := by decide +kernel
theorem dX4_chartRow_70 : decode cX4_chartRow 70 = .ok (.aload_n 1, 1) := by decide +kernel
theorem dX4_chartRow_71 : decode cX4_chartRow 71 = .ok (.iload_n 3, 1) := by decide +kernel
theorem dX4_chartRow_72 : decode cX4_chartRow 72 = .ok (.iconst 1, 1) := by decide +kernel
theorem dX4_chartRow_73 : decode cX4_chartRow 73 = .ok (.iadd, 1) := by decide +kernel
theorem dX4_chartRow_74 : decode cX4_chartRow 74 = .ok (.putfield 151, 3) := by decide +kernel
theorem dX4_chartRow_77 : decode cX4_chartRow 77 = .ok (.iinc 3 1, 3) := by decide +kernel
theorem dX4_chartRow_80 : decode cX4_chartRow 80 = .ok (.goto (-75), 3) := by decide +kernel
theorem dX4_chartRow_83 : decode cX4_chartRow 83 = .ok (.aload_n 1, 1) := by decide +kernel
theorem dX4_chartRow_84 : decode cX4_chartRow 84 = .ok (.getfield 154, 3) := by decide +kernel
theorem dX4_chartRow_87 : decode cX4_chartRow 87 = .ok (.iload_n 2, 1) := by decide +kernel
theorem dX4_chartRow_88 : decode cX4_chartRow 88 = .ok (.aaload, 1) := by decide +kernel
theorem dX4_chartRow_89 : decode cX4_chartRow 89 = .ok (.areturn, 1) := by decide +kernel
set_option maxRecDepth 20000 in
theorem ggX4_greatestTurn_X4_isPlayed : GoodIn wsX4_greatestTurn wsX4_isPlayed := goodIn_r _ [10, 11, 12, 13, 9, 14, 43, 44, 45, 46, 47, 48, 49, 50, 51, 52, 53] (by decide +kernel) (by decide +kernel)
set_option maxRecDepth 20000 in
theorem gX4_greatestTurn_X4_isPlayed : GoodIn wsX4_greatestTurn (wsV RX4 95 RX4 yX4_isPlayed wsX4_isPlayed) := goodIn_app (goodIn_of _ (by decide +kernel)) ggX4_greatestTurn_X4_isPlayed
set_option maxRecDepth 20000 in
theorem ggX4_greatestTurn_X4_gameAt : GoodIn wsX4_greatestTurn wsX4_gameAt := goodIn_r _ [18, 19, 20, 12, 13, 9, 14, 43, 44, 45, 46, 47, 48, 49, 50, 51, 52, 53] (by decide +kernel) (by decide +kernel)
set_option maxRecDepth 20000 in
theorem gX4_greatestTurn_X4_gameAt : GoodIn wsX4_greatestTurn (wsV RX4 74 RX4 yX4_gameAt wsX4_gameAt) := goodIn_app (goodIn_of _ (by decide +kernel)) ggX4_greatestTurn_X4_gameAt
set_option maxRecDepth 20000 in
theorem ggX4_greatestTurn_X4_greatestStake : GoodIn wsX4_greatestTurn wsX4_greatestStake := goodIn_r _ [24, 2, 3, 4, 5, 25, 26, 9, 27, 28, 29, 30, 31, 32, 33, 34, 11, 35, 36, 37, 54, 55, 56, 57, 58, 59, 60, 61, 62, 63, 64, 65, 43, 44, 45, 46, 47, 48, 49, 50, 51, 52, 53] (by decide +kernel) (by decide +kernel)
set_option maxRecDepth 20000 in
theorem gX4_greatestTurn_X4_greatestStake : GoodIn wsX4_greatestTurn (wsV RX4 176 RX4 yX4_greatestStake wsX4_greatestStake) := goodIn_app (goodIn_of _ (by decide +kernel)) ggX4_greatestTurn_X4_greatestStake
theorem dX4_greatestTurn_0 : decode cX4_greatestTurn 0 = .ok (.ldc2_w 168, 3) := by decide +kernel
theorem dX4_greatestTurn_3 : decode cX4_greatestTurn 3 = .ok (.aload_n 2, 1) := by decide +kernel
theorem dX4_greatestTurn_4 : decode cX4_greatestTurn 4 = .ok (.iload_n 3, 1) := by decide +kernel
theorem dX4_greatestTurn_5 : decode cX4_greatestTurn 5 = .ok (.laload, 1) := by decide +kernel
theorem dX4_greatestTurn_6 : decode cX4_greatestTurn 6 = .ok (.lmul, 1) := by decide +kernel
theorem dX4_greatestTurn_7 : decode cX4_greatestTurn 7 = .ok (.lstore 4, 2) := by decide +kernel
theorem dX4_greatestTurn_9 : decode cX4_greatestTurn 9 = .ok (.aload_n 0, 1) := by decide +kernel
theorem dX4_greatestTurn_10 : decode cX4_greatestTurn 10 = .ok (.iload_n 3, 1) := by decide +kernel
theorem dX4_greatestTurn_11 : decode cX4_greatestTurn 11 = .ok (.invokevirtual 95, 3) := by decide +kernel
theorem dX4_greatestTurn_14 : decode cX4_greatestTurn 14 = .ok (.ifCond .ne 6, 3) := by decide +kernel
theorem dX4_greatestTurn_17 : decode cX4_greatestTurn 17 = .ok (.lload 4, 2) := by decide +kernel
theorem dX4_greatestTurn_19 : decode cX4_greatestTurn 19 = .ok (.lreturn, 1) := by decide +kernel
theorem dX4_greatestTurn_20 : decode cX4_greatestTurn 20 = .ok (.aload_n 1, 1) := by decide +kernel
theorem dX4_greatestTurn_21 : decode cX4_greatestTurn 21 = .ok (.getfield 170, 3) := by decide +kernel
theorem dX4_greatestTurn_24 : decode cX4_greatestTurn 24 = .ok (.istore 6, 2) := by decide +kernel
theorem dX4_greatestTurn_26 : decode cX4_greatestTurn 26 = .ok (.iload 6, 2) := by decide +kernel
theorem dX4_greatestTurn_28 : decode cX4_greatestTurn 28 = .ok (.aload_n 1, 1) := by decide +kernel
theorem dX4_greatestTurn_29 : decode cX4_greatestTurn 29 = .ok (.getfield 173, 3) := by decide +kernel
theorem dX4_greatestTurn_32 : decode cX4_greatestTurn 32 = .ok (.if_icmp .ge 37, 3) := by decide +kernel
theorem dX4_greatestTurn_35 : decode cX4_greatestTurn 35 = .ok (.aload_n 0, 1) := by decide +kernel
theorem dX4_greatestTurn_36 : decode cX4_greatestTurn 36 = .ok (.iload 6, 2) := by decide +kernel
theorem dX4_greatestTurn_38 : decode cX4_greatestTurn 38 = .ok (.invokevirtual 74, 3) := by decide +kernel
theorem dX4_greatestTurn_41 : decode cX4_greatestTurn 41 = .ok (.astore 7, 2) := by decide +kernel
theorem dX4_greatestTurn_43 : decode cX4_greatestTurn 43 = .ok (.aload 7, 2) := by decide +kernel
theorem dX4_greatestTurn_45 : decode cX4_greatestTurn 45 = .ok (.ifnull 18, 3) := by decide +kernel
theorem dX4_greatestTurn_48 : decode cX4_greatestTurn 48 = .ok (.lload 4, 2) := by decide +kernel
theorem dX4_greatestTurn_50 : decode cX4_greatestTurn 50 = .ok (.aload_n 0, 1) := by decide +kernel
theorem dX4_greatestTurn_51 : decode cX4_greatestTurn 51 = .ok (.aload 7, 2) := by decide +kernel
theorem dX4_greatestTurn_53 : decode cX4_greatestTurn 53 = .ok (.aload_n 2, 1) := by decide +kernel
theorem dX4_greatestTurn_54 : decode cX4_greatestTurn 54 = .ok (.iload_n 3, 1) := by decide +kernel
theorem dX4_greatestTurn_55 : decode cX4_greatestTurn 55 = .ok (.invokevirtual 176, 3) := by decide +kernel
theorem dX4_greatestTurn_58 : decode cX4_greatestTurn 58 = .ok (.invokestatic 180, 3) := by decide +kernel
theorem dX4_greatestTurn_61 : decode cX4_greatestTurn 61 = .ok (.lstore 4, 2) := by decide +kernel
theorem dX4_greatestTurn_63 : decode cX4_greatestTurn 63 = .ok (.iinc 6 1, 3) := by decide +kernel
theorem dX4_greatestTurn_66 : decode cX4_greatestTurn 66 = .ok (.goto (-40), 3) := by decide +kernel
theorem dX4_greatestTurn_69 : decode cX4_greatestTurn 69 = .ok (.lload 4, 2) := by decide +kernel
theorem dX4_greatestTurn_71 : decode cX4_greatestTurn 71 = .ok (.lreturn, 1) := by decide +kernel
set_option maxRecDepth 20000 in
theorem ggX4_greatestStake_X4_mostStake : GoodIn wsX4_greatestStake wsX4_mostStake := goodIn_r _ [8, 9, 10, 3, 11, 20, 21, 22, 23, 24, 25, 26, 27, 28, 29, 30, 31] (by decide +kernel) (by decide +kernel)
set_option maxRecDepth 20000 in
theorem gX4_greatestStake_X4_mostStake : GoodIn wsX4_greatestStake (va_wsS RX4 184 yX4_mostStake wsX4_mostStake) := goodIn_app (goodIn_of _ (by decide +kernel)) ggX4_greatestStake_X4_mostStake
set_option maxRecDepth 20000 in
theorem ggX4_greatestStake_X4_raised : GoodIn wsX4_greatestStake wsX4_raised := goodIn_r _ [15, 16, 9, 10, 3, 11, 32, 33, 34, 35, 36, 37, 38, 39, 40, 41, 42, 20, 21, 22, 23, 24, 25, 26, 27, 28, 29, 30, 31] (by decide +kernel) (by decide +kernel)
set_option maxRecDepth 20000 in
theorem gX4_greatestStake_X4_raised : GoodIn wsX4_greatestStake (wsV RX4 188 RX4 yX4_raised wsX4_raised) := goodIn_app (goodIn_of _ (by decide +kernel)) ggX4_greatestStake_X4_raised
set_option maxRecDepth 20000 in
theorem ggX4_greatestStake_X4_mixed : GoodIn wsX4_greatestStake wsX4_mixed := goodIn_r _ [19, 20, 21, 22, 23, 24, 25, 26, 27, 28, 29, 30, 31] (by decide +kernel) (by decide +kernel)
set_option maxRecDepth 20000 in
theorem gX4_greatestStake_X4_mixed : GoodIn wsX4_greatestStake (va_wsS RX4 192 yX4_mixed wsX4_mixed) := goodIn_app (goodIn_of _ (by decide +kernel)) ggX4_greatestStake_X4_mixed
theorem dX4_greatestStake_0 : decode cX4_greatestStake 0 = .ok (.aload_n 1, 1) := by decide +kernel
theorem dX4_greatestStake_1 : decode cX4_greatestStake 1 = .ok (.iload_n 3, 1) := by decide +kernel
theorem dX4_greatestStake_2 : decode cX4_greatestStake 2 = .ok (.invokestatic 184, 3) := by decide +kernel
theorem dX4_greatestStake_5 : decode cX4_greatestStake 5 = .ok (.istore 4, 2) := by decide +kernel
theorem dX4_greatestStake_7 : decode cX4_greatestStake 7 = .ok (.lconst 0, 1) := by decide +kernel
theorem dX4_greatestStake_8 : decode cX4_greatestStake 8 = .ok (.lstore 5, 2) := by decide +kernel
theorem dX4_greatestStake_10 : decode cX4_greatestStake 10 = .ok (.iconst 1, 1) := by decide +kernel
theorem dX4_greatestStake_11 : decode cX4_greatestStake 11 = .ok (.istore 7, 2) := by decide +kernel
theorem dX4_greatestStake_13 : decode cX4_greatestStake 13 = .ok (.iload 7, 2) := by decide +kernel
theorem dX4_greatestStake_15 : decode cX4_greatestStake 15 = .ok (.iload 4, 2) := by decide +kernel
theorem dX4_greatestStake_17 : decode cX4_greatestStake 17 = .ok (.if_icmp .gt 36, 3) := by decide +kernel
theorem dX4_greatestStake_20 : decode cX4_greatestStake 20 = .ok (.lload 5, 2) := by decide +kernel
theorem dX4_greatestStake_22 : decode cX4_greatestStake 22 = .ok (.aload_n 1, 1) := by decide +kernel
theorem dX4_greatestStake_23 : decode cX4_greatestStake 23 = .ok (.aload_n 2, 1) := by decide +kernel
theorem dX4_greatestStake_24 : decode cX4_greatestStake 24 = .ok (.aload_n 0, 1) := by decide +kernel
theorem dX4_greatestStake_25 : decode cX4_greatestStake 25 = .ok (.aload_n 1, 1) := by decide +kernel
theorem dX4_greatestStake_26 : decode cX4_greatestStake 26 = .ok (.iload_n 3, 1) := by decide +kernel
theorem dX4_greatestStake_27 : decode cX4_greatestStake 27 = .ok (.iload 7, 2) := by decide +kernel
theorem dX4_greatestStake_29 : decode cX4_greatestStake 29 = .ok (.invokevirtual 188, 3) := by decide +kernel
theorem dX4_greatestStake_32 : decode cX4_greatestStake 32 = .ok (.laload, 1) := by decide +kernel
theorem dX4_greatestStake_33 : decode cX4_greatestStake 33 = .ok (.aload_n 2, 1) := by decide +kernel
theorem dX4_greatestStake_34 : decode cX4_greatestStake 34 = .ok (.iload_n 3, 1) := by decide +kernel
theorem dX4_greatestStake_35 : decode cX4_greatestStake 35 = .ok (.iload 7, 2) := by decide +kernel
theorem dX4_greatestStake_37 : decode cX4_greatestStake 37 = .ok (.isub, 1) := by decide +kernel
theorem dX4_greatestStake_38 : decode cX4_greatestStake 38 = .ok (.laload, 1) := by decide +kernel
theorem dX4_greatestStake_39 : decode cX4_greatestStake 39 = .ok (.invokestatic 192, 3) := by decide +kernel
theorem dX4_greatestStake_42 : decode cX4_greatestStake 42 = .ok (.invokestatic 180, 3) := by decide +kernel
theorem dX4_greatestStake_45 : decode cX4_greatestStake 45 = .ok (.lstore 5, 2) := by decide +kernel
theorem dX4_greatestStake_47 : decode cX4_greatestStake 47 = .ok (.iinc 7 1, 3) := by decide +kernel
theorem dX4_greatestStake_50 : decode cX4_greatestStake 50 = .ok (.goto (-37), 3) := by decide +kernel
theorem dX4_greatestStake_53 : decode cX4_greatestStake 53 = .ok (.lload 5, 2) := by decide +kernel
theorem dX4_greatestStake_55 : decode cX4_greatestStake 55 = .ok (.lreturn, 1) := by decide +kernel
set_option maxRecDepth 20000 in
theorem ggX4_bestStakes_X4_mostStake : GoodIn wsX4_bestStakes wsX4_mostStake := goodIn_r _ [5, 6, 7, 8, 9, 18, 19, 20, 21, 22, 23, 24, 25, 26, 27, 28, 29] (by decide +kernel) (by decide +kernel)
set_option maxRecDepth 20000 in
theorem gX4_bestStakes_X4_mostStake : GoodIn wsX4_bestStakes (va_wsS RX4 184 yX4_mostStake wsX4_mostStake) := goodIn_app (goodIn_of _ (by decide +kernel)) ggX4_bestStakes_X4_mostStake
set_option maxRecDepth 20000 in
theorem ggX4_bestStakes_X4_raised : GoodIn wsX4_bestStakes wsX4_raised := goodIn_r _ [13, 14, 6, 7, 8, 9, 30, 31, 32, 33, 34, 35, 36, 37, 38, 39, 40, 18, 19, 20, 21, 22, 23, 24, 25, 26, 27, 28, 29] (by decide +kernel) (by decide +kernel)
set_option maxRecDepth 20000 in
theorem gX4_bestStakes_X4_raised : GoodIn wsX4_bestStakes (wsV RX4 188 RX4 yX4_raised wsX4_raised) := goodIn_app (goodIn_of _ (by decide +kernel)) ggX4_bestStakes_X4_raised
set_option maxRecDepth 20000 in
theorem ggX4_bestStakes_X4_mixed : GoodIn wsX4_bestStakes wsX4_mixed := goodIn_r _ [17, 18, 19, 20, 21, 22, 23, 24, 25, 26, 27, 28, 29] (by decide +kernel) (by decide +kernel)
set_option maxRecDepth 20000 in
theorem gX4_bestStakes_X4_mixed : GoodIn wsX4_bestStakes (va_wsS RX4 192 yX4_mixed wsX4_mixed) := goodIn_app (goodIn_of _ (by decide +kernel)) ggX4_bestStakes_X4_mixed
theorem dX4_bestStakes_0 : decode cX4_bestStakes 0 = .ok (.ldc2_w 168, 3) := by decide +kernel
theorem dX4_bestStakes_3 : decode cX4_bestStakes 3 = .ok (.aload 5, 2) := by decide +kernel
theorem dX4_bestStakes_5 : decode cX4_bestStakes 5 = .ok (.iload_n 2, 1) := by decide +kernel
theorem dX4_bestStakes_6 : decode cX4_bestStakes 6 = .ok (.laload, 1) := by decide +kernel
theorem dX4_bestStakes_7 : decode cX4_bestStakes 7 = .ok (.lmul, 1) := by decide +kernel
theorem dX4_bestStakes_8 : decode cX4_bestStakes 8 = .ok (.lload_n 3, 1) := by decide +kernel
theorem dX4_bestStakes_9 : decode cX4_bestStakes 9 = .ok (.lcmp, 1) := by decide +kernel
theorem dX4_bestStakes_10 : decode cX4_bestStakes 10 = .ok (.ifCond .ne 7, 3) := by decide +kernel
theorem dX4_bestStakes_13 : decode cX4_bestStakes 13 = .ok (.lconst 1, 1) := by decide +kernel
theorem dX4_bestStakes_14 : decode cX4_bestStakes 14 = .ok (.goto 4, 3) := by decide +kernel
theorem dX4_bestStakes_17 : decode cX4_bestStakes 17 = .ok (.lconst 0, 1) := by decide +kernel
theorem dX4_bestStakes_18 : decode cX4_bestStakes 18 = .ok (.lstore 6, 2) := by decide +kernel
theorem dX4_bestStakes_20 : decode cX4_bestStakes 20 = .ok (.aload_n 1, 1) := by decide +kernel
theorem dX4_bestStakes_21 : decode cX4_bestStakes 21 = .ok (.iload_n 2, 1) := by decide +kernel
theorem dX4_bestStakes_22 : decode cX4_bestStakes 22 = .ok (.invokestatic 184, 3) := by decide +kernel
theorem dX4_bestStakes_25 : decode cX4_bestStakes 25 = .ok (.istore 8, 2) := by decide +kernel
theorem dX4_bestStakes_27 : decode cX4_bestStakes 27 = .ok (.iconst 1, 1) := by decide +kernel
theorem dX4_bestStakes_28 : decode cX4_bestStakes 28 = .ok (.istore 9, 2) := by decide +kernel
theorem dX4_bestStakes_30 : decode cX4_bestStakes 30 = .ok (.iload 9, 2) := by decide +kernel
theorem dX4_bestStakes_32 : decode cX4_bestStakes 32 = .ok (.iload 8, 2) := by decide +kernel
theorem dX4_bestStakes_34 : decode cX4_bestStakes 34 = .ok (.if_icmp .gt 45, 3) := by decide +kernel
theorem dX4_bestStakes_37 : decode cX4_bestStakes 37 = .ok (.aload_n 1, 1) := by decide +kernel
theorem dX4_bestStakes_38 : decode cX4_bestStakes 38 = .ok (.aload 5, 2) := by decide +kernel
theorem dX4_bestStakes_40 : decode cX4_bestStakes 40 = .ok (.aload_n 0, 1) := by decide +kernel
theorem dX4_bestStakes_41 : decode cX4_bestStakes 41 = .ok (.aload_n 1, 1) := by decide +kernel
theorem dX4_bestStakes_42 : decode cX4_bestStakes 42 = .ok (.iload_n 2, 1) := by decide +kernel
theorem dX4_bestStakes_43 : decode cX4_bestStakes 43 = .ok (.iload 9, 2) := by decide +kernel
theorem dX4_bestStakes_45 : decode cX4_bestStakes 45 = .ok (.invokevirtual 188, 3) := by decide +kernel
theorem dX4_bestStakes_48 : decode cX4_bestStakes 48 = .ok (.laload, 1) := by decide +kernel
theorem dX4_bestStakes_49 : decode cX4_bestStakes 49 = .ok (.aload 5, 2) := by decide +kernel
theorem dX4_bestStakes_51 : decode cX4_bestStakes 51 = .ok (.iload_n 2, 1) := by decide +kernel
theorem dX4_bestStakes_52 : decode cX4_bestStakes 52 = .ok (.iload 9, 2) := by decide +kernel
theorem dX4_bestStakes_54 : decode cX4_bestStakes 54 = .ok (.isub, 1) := by decide +kernel
theorem dX4_bestStakes_55 : decode cX4_bestStakes 55 = .ok (.laload, 1) := by decide +kernel
theorem dX4_bestStakes_56 : decode cX4_bestStakes 56 = .ok (.invokestatic 192, 3) := by decide +kernel
theorem dX4_bestStakes_59 : decode cX4_bestStakes 59 = .ok (.lload_n 3, 1) := by decide +kernel
theorem dX4_bestStakes_60 : decode cX4_bestStakes 60 = .ok (.lcmp, 1) := by decide +kernel
theorem dX4_bestStakes_61 : decode cX4_bestStakes 61 = .ok (.ifCond .ne 12, 3) := by decide +kernel
theorem dX4_bestStakes_64 : decode cX4_bestStakes 64 = .ok (.lload 6, 2) := by decide +kernel
theorem dX4_bestStakes_66 : decode cX4_bestStakes 66 = .ok (.lconst 1, 1) := by decide +kernel
theorem dX4_bestStakes_67 : decode cX4_bestStakes 67 = .ok (.iload 9, 2) := by decide +kernel
theorem dX4_bestStakes_69 : decode cX4_bestStakes 69 = .ok (.lshl, 1) := by decide +kernel
theorem dX4_bestStakes_70 : decode cX4_bestStakes 70 = .ok (.lor, 1) := by decide +kernel
theorem dX4_bestStakes_71 : decode cX4_bestStakes 71 = .ok (.lstore 6, 2) := by decide +kernel
theorem dX4_bestStakes_73 : decode cX4_bestStakes 73 = .ok (.iinc 9 1, 3) := by decide +kernel
theorem dX4_bestStakes_76 : decode cX4_bestStakes 76 = .ok (.goto (-46), 3) := by decide +kernel
theorem dX4_bestStakes_79 : decode cX4_bestStakes 79 = .ok (.lload 6, 2) := by decide +kernel
theorem dX4_bestStakes_81 : decode cX4_bestStakes 81 = .ok (.lreturn, 1) := by decide +kernel
set_option maxRecDepth 20000 in
theorem ggX4_planned_X4_boldStake : GoodIn wsX4_planned wsX4_boldStake := goodIn_r _ [10, 11, 12, 13, 9, 14, 2, 3, 4, 5, 26, 27, 28, 29, 30, 31, 32, 33, 34, 35, 36, 37, 15, 16, 17, 18, 19, 20, 21, 22, 23, 24, 25] (by decide +kernel) (by decide +kernel)
set_option maxRecDepth 20000 in
theorem gX4_planned_X4_boldStake : GoodIn wsX4_planned (wsV RX4 196 RX4 yX4_boldStake wsX4_boldStake) := goodIn_app (goodIn_of _ (by decide +kernel)) ggX4_planned_X4_boldStake
set_option maxRecDepth 20000 in
theorem ggX4_planned_X4_mostStake : GoodIn wsX4_planned wsX4_mostStake := goodIn_r _ [14, 2, 3, 4, 5, 26, 27, 28, 29, 30, 31, 32, 33, 34, 35, 36, 37] (by decide +kernel) (by decide +kernel)
set_option maxRecDepth 20000 in
theorem gX4_planned_X4_mostStake : GoodIn wsX4_planned (va_wsS RX4 184 yX4_mostStake wsX4_mostStake) := goodIn_app (goodIn_of _ (by decide +kernel)) ggX4_planned_X4_mostStake
theorem dX4_planned_0 : decode cX4_planned 0 = .ok (.iload_n 1, 1) := by decide +kernel
theorem dX4_planned_1 : decode cX4_planned 1 = .ok (.tableswitch 51 0 2 #[27, 34, 36], 27) := by decide +kernel
theorem dX4_planned_28 : decode cX4_planned 28 = .ok (.aload_n 0, 1) := by decide +kernel
theorem dX4_planned_29 : decode cX4_planned 29 = .ok (.aload_n 2, 1) := by decide +kernel
theorem dX4_planned_30 : decode cX4_planned 30 = .ok (.iload_n 3, 1) := by decide +kernel
theorem dX4_planned_31 : decode cX4_planned 31 = .ok (.invokevirtual 196, 3) := by decide +kernel
theorem dX4_planned_34 : decode cX4_planned 34 = .ok (.ireturn, 1) := by decide +kernel
theorem dX4_planned_35 : decode cX4_planned 35 = .ok (.iconst 1, 1) := by decide +kernel
theorem dX4_planned_36 : decode cX4_planned 36 = .ok (.ireturn, 1) := by decide +kernel
theorem dX4_planned_37 : decode cX4_planned 37 = .ok (.aload_n 0, 1) := by decide +kernel
theorem dX4_planned_38 : decode cX4_planned 38 = .ok (.getfield 15, 3) := by decide +kernel
theorem dX4_planned_41 : decode cX4_planned 41 = .ok (.iload_n 3, 1) := by decide +kernel
theorem dX4_planned_42 : decode cX4_planned 42 = .ok (.iaload, 1) := by decide +kernel
theorem dX4_planned_43 : decode cX4_planned 43 = .ok (.aload_n 2, 1) := by decide +kernel
theorem dX4_planned_44 : decode cX4_planned 44 = .ok (.iload_n 3, 1) := by decide +kernel
theorem dX4_planned_45 : decode cX4_planned 45 = .ok (.invokestatic 184, 3) := by decide +kernel
theorem dX4_planned_48 : decode cX4_planned 48 = .ok (.invokestatic 137, 3) := by decide +kernel
theorem dX4_planned_51 : decode cX4_planned 51 = .ok (.ireturn, 1) := by decide +kernel
theorem dX4_planned_52 : decode cX4_planned 52 = .ok (.iconst 1, 1) := by decide +kernel
theorem dX4_planned_53 : decode cX4_planned 53 = .ok (.iload 4, 2) := by decide +kernel
theorem dX4_planned_55 : decode cX4_planned 55 = .ok (.ishl, 1) := by decide +kernel
theorem dX4_planned_56 : decode cX4_planned 56 = .ok (.aload_n 2, 1) := by decide +kernel
theorem dX4_planned_57 : decode cX4_planned 57 = .ok (.iload_n 3, 1) := by decide +kernel
theorem dX4_planned_58 : decode cX4_planned 58 = .ok (.invokestatic 184, 3) := by decide +kernel
theorem dX4_planned_61 : decode cX4_planned 61 = .ok (.invokestatic 137, 3) := by decide +kernel
theorem dX4_planned_64 : decode cX4_planned 64 = .ok (.ireturn, 1) := by decide +kernel
set_option maxRecDepth 20000 in
theorem ggX4_boldStake_X4_mostStake : GoodIn wsX4_boldStake wsX4_mostStake := goodIn_r _ [5, 6, 7, 8, 9, 10, 11, 12, 13, 14, 15, 16, 17, 18, 19, 20, 21] (by decide +kernel) (by decide +kernel)
set_option maxRecDepth 20000 in
theorem gX4_boldStake_X4_mostStake : GoodIn wsX4_boldStake (va_wsS RX4 184 yX4_mostStake wsX4_mostStake) := goodIn_app (goodIn_of _ (by decide +kernel)) ggX4_boldStake_X4_mostStake
theorem dX4_boldStake_0 : decode cX4_boldStake 0 = .ok (.aload_n 1, 1) := by decide +kernel
theorem dX4_boldStake_1 : decode cX4_boldStake 1 = .ok (.iload_n 2, 1) := by decide +kernel
theorem dX4_boldStake_2 : decode cX4_boldStake 2 = .ok (.invokestatic 184, 3) := by decide +kernel
theorem dX4_boldStake_5 : decode cX4_boldStake 5 = .ok (.istore_n 3, 1) := by decide +kernel
theorem dX4_boldStake_6 : decode cX4_boldStake 6 = .ok (.iconst 1, 1) := by decide +kernel
theorem dX4_boldStake_7 : decode cX4_boldStake 7 = .ok (.istore 4, 2) := by decide +kernel
theorem dX4_boldStake_9 : decode cX4_boldStake 9 = .ok (.iload 4, 2) := by decide +kernel
theorem dX4_boldStake_11 : decode cX4_boldStake 11 = .ok (.iload_n 3, 1) := by decide +kernel
theorem dX4_boldStake_12 : decode cX4_boldStake 12 = .ok (.if_icmp .ge 28, 3) := by decide +kernel
theorem dX4_boldStake_15 : decode cX4_boldStake 15 = .ok (.iload_n 2, 1) := by decide +kernel
theorem dX4_boldStake_16 : decode cX4_boldStake 16 = .ok (.aload_n 1, 1) := by decide +kernel
theorem dX4_boldStake_17 : decode cX4_boldStake 17 = .ok (.getfield 143, 3) := by decide +kernel
theorem dX4_boldStake_20 : decode cX4_boldStake 20 = .ok (.iload 4, 2) := by decide +kernel
theorem dX4_boldStake_22 : decode cX4_boldStake 22 = .ok (.iaload, 1) := by decide +kernel
theorem dX4_boldStake_23 : decode cX4_boldStake 23 = .ok (.iadd, 1) := by decide +kernel
theorem dX4_boldStake_24 : decode cX4_boldStake 24 = .ok (.aload_n 0, 1) := by decide +kernel
theorem dX4_boldStake_25 : decode cX4_boldStake 25 = .ok (.getfield 42, 3) := by decide +kernel
theorem dX4_boldStake_28 : decode cX4_boldStake 28 = .ok (.if_icmp .lt 6, 3) := by decide +kernel
theorem dX4_boldStake_31 : decode cX4_boldStake 31 = .ok (.iload 4, 2) := by decide +kernel
theorem dX4_boldStake_33 : decode cX4_boldStake 33 = .ok (.ireturn, 1) := by decide +kernel
theorem dX4_boldStake_34 : decode cX4_boldStake 34 = .ok (.iinc 4 1, 3) := by decide +kernel
theorem dX4_boldStake_37 : decode cX4_boldStake 37 = .ok (.goto (-28), 3) := by decide +kernel
theorem dX4_boldStake_40 : decode cX4_boldStake 40 = .ok (.iload_n 3, 1) := by decide +kernel
theorem dX4_boldStake_41 : decode cX4_boldStake 41 = .ok (.ireturn, 1) := by decide +kernel
set_option maxRecDepth 20000 in
theorem ggX4_planWorth_X4_layRung : GoodIn wsX4_planWorth wsX4_layRung := goodIn_r _ [10, 11, 12, 5, 13, 14, 15, 9, 16, 17, 18, 19, 20, 21, 22, 23, 24, 1, 2, 3, 4, 25, 26, 27, 28, 29, 30, 31, 32, 33, 34, 35, 48, 49, 50, 51, 52, 53, 54, 55, 56, 57, 58, 59, 60, 61, 62, 63, 64, 65, 66, 67, 68, 69, 70] (by decide +kernel) (by decide +kernel)
set_option maxRecDepth 20000 in
theorem gX4_planWorth_X4_layRung : GoodIn wsX4_planWorth (wsV RX4 199 RX4 yX4_layRung wsX4_layRung) := goodIn_app (goodIn_of _ (by decide +kernel)) ggX4_planWorth_X4_layRung
set_option maxRecDepth 20000 in
theorem ggX4_planWorth_X4_playRung : GoodIn wsX4_planWorth wsX4_playRung := goodIn_r _ [39, 5, 11, 12, 40, 41, 42, 43, 9, 44, 1, 2, 3, 4, 45, 46, 47, 48, 49, 50, 51, 52, 53, 54, 55, 56, 57, 58, 59, 60, 61, 62, 63, 64, 65, 66, 67, 68, 69, 70] (by decide +kernel) (by decide +kernel)
set_option maxRecDepth 20000 in
theorem gX4_planWorth_X4_playRung : GoodIn wsX4_planWorth (wsV RX4 203 RX4 yX4_playRung wsX4_playRung) := goodIn_app (goodIn_of _ (by decide +kernel)) ggX4_planWorth_X4_playRung
theorem dX4_planWorth_0 : decode cX4_planWorth 0 = .ok (.iload_n 1, 1) := by decide +kernel
theorem dX4_planWorth_1 : decode cX4_planWorth 1 = .ok (.iconst 3, 1) := by decide +kernel
theorem dX4_planWorth_2 : decode cX4_planWorth 2 = .ok (.if_icmp .ne 8, 3) := by decide +kernel
theorem dX4_planWorth_5 : decode cX4_planWorth 5 = .ok (.bipush 6, 2) := by decide +kernel
theorem dX4_planWorth_7 : decode cX4_planWorth 7 = .ok (.goto 4, 3) := by decide +kernel
theorem dX4_planWorth_10 : decode cX4_planWorth 10 = .ok (.iconst 1, 1) := by decide +kernel
theorem dX4_planWorth_11 : decode cX4_planWorth 11 = .ok (.istore 6, 2) := by decide +kernel
theorem dX4_planWorth_13 : decode cX4_planWorth 13 = .ok (.iconst 0, 1) := by decide +kernel
theorem dX4_planWorth_14 : decode cX4_planWorth 14 = .ok (.istore 7, 2) := by decide +kernel
theorem dX4_planWorth_16 : decode cX4_planWorth 16 = .ok (.iload 7, 2) := by decide +kernel
theorem dX4_planWorth_18 : decode cX4_planWorth 18 = .ok (.iload 6, 2) := by decide +kernel
theorem dX4_planWorth_20 : decode cX4_planWorth 20 = .ok (.if_icmp .ge 19, 3) := by decide +kernel
theorem dX4_planWorth_23 : decode cX4_planWorth 23 = .ok (.aload_n 0, 1) := by decide +kernel
theorem dX4_planWorth_24 : decode cX4_planWorth 24 = .ok (.iload_n 1, 1) := by decide +kernel
theorem dX4_planWorth_25 : decode cX4_planWorth 25 = .ok (.aload_n 2, 1) := by decide +kernel
theorem dX4_planWorth_26 : decode cX4_planWorth 26 = .ok (.iload 7, 2) := by decide +kernel
theorem dX4_planWorth_28 : decode cX4_planWorth 28 = .ok (.iload 5, 2) := by decide +kernel
theorem dX4_planWorth_30 : decode cX4_planWorth 30 = .ok (.invokevirtual 199, 3) := by decide +kernel
theorem dX4_planWorth_33 : decode cX4_planWorth 33 = .ok (.iinc 7 1, 3) := by decide +kernel
theorem dX4_planWorth_36 : decode cX4_planWorth 36 = .ok (.goto (-20), 3) := by decide +kernel
theorem dX4_planWorth_39 : decode cX4_planWorth 39 = .ok (.iconst 1, 1) := by decide +kernel
theorem dX4_planWorth_40 : decode cX4_planWorth 40 = .ok (.istore 7, 2) := by decide +kernel
theorem dX4_planWorth_42 : decode cX4_planWorth 42 = .ok (.iload 7, 2) := by decide +kernel
theorem dX4_planWorth_44 : decode cX4_planWorth 44 = .ok (.iload 4, 2) := by decide +kernel
theorem dX4_planWorth_46 : decode cX4_planWorth 46 = .ok (.if_icmp .gt 51, 3) := by decide +kernel
theorem dX4_planWorth_49 : decode cX4_planWorth 49 = .ok (.iconst 0, 1) := by decide +kernel
theorem dX4_planWorth_50 : decode cX4_planWorth 50 = .ok (.istore 8, 2) := by decide +kernel
theorem dX4_planWorth_52 : decode cX4_planWorth 52 = .ok (.iload 8, 2) := by decide +kernel
theorem dX4_planWorth_54 : decode cX4_planWorth 54 = .ok (.iload 6, 2) := by decide +kernel
theorem dX4_planWorth_56 : decode cX4_planWorth 56 = .ok (.if_icmp .ge 35, 3) := by decide +kernel
theorem dX4_planWorth_59 : decode cX4_planWorth 59 = .ok (.iload 8, 2) := by decide +kernel
theorem dX4_planWorth_61 : decode cX4_planWorth 61 = .ok (.iconst 1, 1) := by decide +kernel
theorem dX4_planWorth_62 : decode cX4_planWorth 62 = .ok (.iadd, 1) := by decide +kernel
theorem dX4_planWorth_63 : decode cX4_planWorth 63 = .ok (.iload 6, 2) := by decide +kernel
theorem dX4_planWorth_65 : decode cX4_planWorth 65 = .ok (.iconst 1, 1) := by decide +kernel
theorem dX4_planWorth_66 : decode cX4_planWorth 66 = .ok (.isub, 1) := by decide +kernel
theorem dX4_planWorth_67 : decode cX4_planWorth 67 = .ok (.invokestatic 137, 3) := by decide +kernel
theorem dX4_planWorth_70 : decode cX4_planWorth 70 = .ok (.istore 9, 2) := by decide +kernel
theorem dX4_planWorth_72 : decode cX4_planWorth 72 = .ok (.aload_n 0, 1) := by decide +kernel
theorem dX4_planWorth_73 : decode cX4_planWorth 73 = .ok (.aload_n 2, 1) := by decide +kernel
theorem dX4_planWorth_74 : decode cX4_planWorth 74 = .ok (.iload 8, 2) := by decide +kernel
theorem dX4_planWorth_76 : decode cX4_planWorth 76 = .ok (.iload 9, 2) := by decide +kernel
theorem dX4_planWorth_78 : decode cX4_planWorth 78 = .ok (.iload 7, 2) := by decide +kernel
theorem dX4_planWorth_80 : decode cX4_planWorth 80 = .ok (.iload 5, 2) := by decide +kernel
theorem dX4_planWorth_82 : decode cX4_planWorth 82 = .ok (.invokevirtual 203, 3) := by decide +kernel
theorem dX4_planWorth_85 : decode cX4_planWorth 85 = .ok (.iinc 8 1, 3) := by decide +kernel
theorem dX4_planWorth_88 : decode cX4_planWorth 88 = .ok (.goto (-36), 3) := by decide +kernel
theorem dX4_planWorth_91 : decode cX4_planWorth 91 = .ok (.iinc 7 1, 3) := by decide +kernel
theorem dX4_planWorth_94 : decode cX4_planWorth 94 = .ok (.goto (-52), 3) := by decide +kernel
theorem dX4_planWorth_97 : decode cX4_planWorth 97 = .ok (.aload_n 0, 1) := by decide +kernel
theorem dX4_planWorth_98 : decode cX4_planWorth 98 = .ok (.getfield 39, 3) := by decide +kernel
theorem dX4_planWorth_101 : decode cX4_planWorth 101 = .ok (.iload 4, 2) := by decide +kernel
theorem dX4_planWorth_103 : decode cX4_planWorth 103 = .ok (.iconst 1, 1) := by decide +kernel
theorem dX4_planWorth_104 : decode cX4_planWorth 104 = .ok (.iand, 1) := by decide +kernel
theorem dX4_planWorth_105 : decode cX4_planWorth 105 = .ok (.aaload, 1) := by decide +kernel
theorem dX4_planWorth_106 : decode cX4_planWorth 106 = .ok (.iload_n 3, 1) := by decide +kernel
theorem dX4_planWorth_107 : decode cX4_planWorth 107 = .ok (.laload, 1) := by decide +kernel
theorem dX4_planWorth_108 : decode cX4_planWorth 108 = .ok (.lreturn, 1) := by decide +kernel
set_option maxRecDepth 20000 in
theorem ggX4_layRung_X4_isPlayed : GoodIn wsX4_layRung wsX4_isPlayed := goodIn_r _ [8, 1, 9, 10, 7, 11, 32, 33, 34, 35, 36, 37, 38, 39, 40, 41, 42] (by decide +kernel) (by decide +kernel)
set_option maxRecDepth 20000 in
theorem gX4_layRung_X4_isPlayed : GoodIn wsX4_layRung (wsV RX4 95 RX4 yX4_isPlayed wsX4_isPlayed) := goodIn_app (goodIn_of _ (by decide +kernel)) ggX4_layRung_X4_isPlayed
set_option maxRecDepth 20000 in
theorem ggX4_layRung_X4_planned : GoodIn wsX4_layRung wsX4_planned := goodIn_r _ [15, 16, 17, 18, 19, 20, 21, 22, 23, 7, 24, 1, 25, 26, 27, 32, 33, 34, 35, 36, 37, 38, 39, 40, 41, 42, 43, 44, 45, 46, 47, 48, 49, 50, 51, 52, 53, 54] (by decide +kernel) (by decide +kernel)
set_option maxRecDepth 20000 in
theorem gX4_layRung_X4_planned : GoodIn wsX4_layRung (wsV RX4 111 RX4 yX4_planned wsX4_planned) := goodIn_app (goodIn_of _ (by decide +kernel)) ggX4_layRung_X4_planned
set_option maxRecDepth 20000 in
theorem ggX4_layRung_X4_endWorth : GoodIn wsX4_layRung wsX4_endWorth := goodIn_r _ [31, 1, 32, 33, 34, 35, 36, 37, 38, 39, 40, 41, 42] (by decide +kernel) (by decide +kernel)
set_option maxRecDepth 20000 in
theorem gX4_layRung_X4_endWorth : GoodIn wsX4_layRung (wsV RX4 160 RX4 yX4_endWorth wsX4_endWorth) := goodIn_app (goodIn_of _ (by decide +kernel)) ggX4_layRung_X4_endWorth
theorem dX4_layRung_0 : decode cX4_layRung 0 = .ok (.iconst 0, 1) := by decide +kernel
theorem dX4_layRung_1 : decode cX4_layRung 1 = .ok (.istore 5, 2) := by decide +kernel
theorem dX4_layRung_3 : decode cX4_layRung 3 = .ok (.iload 5, 2) := by decide +kernel
theorem dX4_layRung_5 : decode cX4_layRung 5 = .ok (.aload_n 0, 1) := by decide +kernel
theorem dX4_layRung_6 : decode cX4_layRung 6 = .ok (.getfield 42, 3) := by decide +kernel
theorem dX4_layRung_9 : decode cX4_layRung 9 = .ok (.if_icmp .gt 64, 3) := by decide +kernel
theorem dX4_layRung_12 : decode cX4_layRung 12 = .ok (.iload_n 3, 1) := by decide +kernel
theorem dX4_layRung_13 : decode cX4_layRung 13 = .ok (.bipush 33, 2) := by decide +kernel
theorem dX4_layRung_15 : decode cX4_layRung 15 = .ok (.imul, 1) := by decide +kernel
theorem dX4_layRung_16 : decode cX4_layRung 16 = .ok (.iload 5, 2) := by decide +kernel
theorem dX4_layRung_18 : decode cX4_layRung 18 = .ok (.iadd, 1) := by decide +kernel
theorem dX4_layRung_19 : decode cX4_layRung 19 = .ok (.istore 6, 2) := by decide +kernel
theorem dX4_layRung_21 : decode cX4_layRung 21 = .ok (.aload_n 0, 1) := by decide +kernel
theorem dX4_layRung_22 : decode cX4_layRung 22 = .ok (.getfield 34, 3) := by decide +kernel
theorem dX4_layRung_25 : decode cX4_layRung 25 = .ok (.iload 6, 2) := by decide +kernel
theorem dX4_layRung_27 : decode cX4_layRung 27 = .ok (.aload_n 0, 1) := by decide +kernel
theorem dX4_layRung_28 : decode cX4_layRung 28 = .ok (.iload 5, 2) := by decide +kernel
theorem dX4_layRung_30 : decode cX4_layRung 30 = .ok (.invokevirtual 95, 3) := by decide +kernel
theorem dX4_layRung_33 : decode cX4_layRung 33 = .ok (.ifCond .eq 15, 3) := by decide +kernel
theorem dX4_layRung_36 : decode cX4_layRung 36 = .ok (.aload_n 0, 1) := by decide +kernel
theorem dX4_layRung_37 : decode cX4_layRung 37 = .ok (.iload_n 1, 1) := by decide +kernel
theorem dX4_layRung_38 : decode cX4_layRung 38 = .ok (.aload_n 2, 1) := by decide +kernel
theorem dX4_layRung_39 : decode cX4_layRung 39 = .ok (.iload 5, 2) := by decide +kernel
theorem dX4_layRung_41 : decode cX4_layRung 41 = .ok (.iload_n 3, 1) := by decide +kernel
theorem dX4_layRung_42 : decode cX4_layRung 42 = .ok (.invokevirtual 111, 3) := by decide +kernel
theorem dX4_layRung_45 : decode cX4_layRung 45 = .ok (.goto 4, 3) := by decide +kernel
theorem dX4_layRung_48 : decode cX4_layRung 48 = .ok (.iconst 0, 1) := by decide +kernel
theorem dX4_layRung_49 : decode cX4_layRung 49 = .ok (.iastore, 1) := by decide +kernel
theorem dX4_layRung_50 : decode cX4_layRung 50 = .ok (.aload_n 0, 1) := by decide +kernel
theorem dX4_layRung_51 : decode cX4_layRung 51 = .ok (.getfield 39, 3) := by decide +kernel
theorem dX4_layRung_54 : decode cX4_layRung 54 = .ok (.iconst 0, 1) := by decide +kernel
theorem dX4_layRung_55 : decode cX4_layRung 55 = .ok (.aaload, 1) := by decide +kernel
theorem dX4_layRung_56 : decode cX4_layRung 56 = .ok (.iload 6, 2) := by decide +kernel
theorem dX4_layRung_58 : decode cX4_layRung 58 = .ok (.aload_n 0, 1) := by decide +kernel
theorem dX4_layRung_59 : decode cX4_layRung 59 = .ok (.iload 4, 2) := by decide +kernel
theorem dX4_layRung_61 : decode cX4_layRung 61 = .ok (.iload 5, 2) := by decide +kernel
theorem dX4_layRung_63 : decode cX4_layRung 63 = .ok (.invokevirtual 160, 3) := by decide +kernel
theorem dX4_layRung_66 : decode cX4_layRung 66 = .ok (.lastore, 1) := by decide +kernel
theorem dX4_layRung_67 : decode cX4_layRung 67 = .ok (.iinc 5 1, 3) := by decide +kernel
theorem dX4_layRung_70 : decode cX4_layRung 70 = .ok (.goto (-67), 3) := by decide +kernel
theorem dX4_layRung_73 : decode cX4_layRung 73 = .ok (.return_, 1) := by decide +kernel
set_option maxRecDepth 20000 in
theorem ggX4_playRung_X4_raised : GoodIn wsX4_playRung wsX4_raised := goodIn_r _ [9, 2, 10, 11, 12, 13, 17, 18, 19, 20, 21, 22, 23, 24, 25, 26, 27, 28, 29, 30, 31, 32, 33, 34, 35, 36, 37, 38, 39] (by decide +kernel) (by decide +kernel)
set_option maxRecDepth 20000 in
theorem gX4_playRung_X4_raised : GoodIn wsX4_playRung (wsV RX4 188 RX4 yX4_raised wsX4_raised) := goodIn_app (goodIn_of _ (by decide +kernel)) ggX4_playRung_X4_raised
set_option maxRecDepth 20000 in
theorem ggX4_playRung_X4_mixed : GoodIn wsX4_playRung wsX4_mixed := goodIn_r _ [16, 28, 29, 30, 31, 32, 33, 34, 35, 36, 37, 38, 39] (by decide +kernel) (by decide +kernel)
set_option maxRecDepth 20000 in
theorem gX4_playRung_X4_mixed : GoodIn wsX4_playRung (va_wsS RX4 192 yX4_mixed wsX4_mixed) := goodIn_app (goodIn_of _ (by decide +kernel)) ggX4_playRung_X4_mixed
theorem dX4_playRung_0 : decode cX4_playRung 0 = .ok (.aload_n 0, 1) := by decide +kernel
theorem dX4_playRung_1 : decode cX4_playRung 1 = .ok (.getfield 39, 3) := by decide +kernel
theorem dX4_playRung_4 : decode cX4_playRung 4 = .ok (.iload 4, 2) := by decide +kernel
theorem dX4_playRung_6 : decode cX4_playRung 6 = .ok (.iconst 1, 1) := by decide +kernel
theorem dX4_playRung_7 : decode cX4_playRung 7 = .ok (.isub, 1) := by decide +kernel
theorem dX4_playRung_8 : decode cX4_playRung 8 = .ok (.iconst 1, 1) := by decide +kernel
theorem dX4_playRung_9 : decode cX4_playRung 9 = .ok (.iand, 1) := by decide +kernel
theorem dX4_playRung_10 : decode cX4_playRung 10 = .ok (.aaload, 1) := by decide +kernel
theorem dX4_playRung_11 : decode cX4_playRung 11 = .ok (.astore 6, 2) := by decide +kernel
theorem dX4_playRung_13 : decode cX4_playRung 13 = .ok (.aload_n 0, 1) := by decide +kernel
theorem dX4_playRung_14 : decode cX4_playRung 14 = .ok (.getfield 39, 3) := by decide +kernel
theorem dX4_playRung_17 : decode cX4_playRung 17 = .ok (.iload 4, 2) := by decide +kernel
theorem dX4_playRung_19 : decode cX4_playRung 19 = .ok (.iconst 1, 1) := by decide +kernel
theorem dX4_playRung_20 : decode cX4_playRung 20 = .ok (.iand, 1) := by decide +kernel
theorem dX4_playRung_21 : decode cX4_playRung 21 = .ok (.aaload, 1) := by decide +kernel
theorem dX4_playRung_22 : decode cX4_playRung 22 = .ok (.astore 7, 2) := by decide +kernel
theorem dX4_playRung_24 : decode cX4_playRung 24 = .ok (.iload 5, 2) := by decide +kernel
theorem dX4_playRung_26 : decode cX4_playRung 26 = .ok (.iconst 3, 1) := by decide +kernel
theorem dX4_playRung_27 : decode cX4_playRung 27 = .ok (.if_icmp .ne 12, 3) := by decide +kernel
theorem dX4_playRung_30 : decode cX4_playRung 30 = .ok (.lconst 1, 1) := by decide +kernel
theorem dX4_playRung_31 : decode cX4_playRung 31 = .ok (.iconst 4, 1) := by decide +kernel
theorem dX4_playRung_32 : decode cX4_playRung 32 = .ok (.iload 4, 2) := by decide +kernel
theorem dX4_playRung_34 : decode cX4_playRung 34 = .ok (.imul, 1) := by decide +kernel
theorem dX4_playRung_35 : decode cX4_playRung 35 = .ok (.lshl, 1) := by decide +kernel
theorem dX4_playRung_36 : decode cX4_playRung 36 = .ok (.goto 4, 3) := by decide +kernel
theorem dX4_playRung_39 : decode cX4_playRung 39 = .ok (.lconst 0, 1) := by decide +kernel
theorem dX4_playRung_40 : decode cX4_playRung 40 = .ok (.lstore 8, 2) := by decide +kernel
theorem dX4_playRung_42 : decode cX4_playRung 42 = .ok (.iconst 0, 1) := by decide +kernel
theorem dX4_playRung_43 : decode cX4_playRung 43 = .ok (.istore 10, 2) := by decide +kernel
theorem dX4_playRung_45 : decode cX4_playRung 45 = .ok (.iload 10, 2) := by decide +kernel
theorem dX4_playRung_47 : decode cX4_playRung 47 = .ok (.aload_n 0, 1) := by decide +kernel
theorem dX4_playRung_48 : decode cX4_playRung 48 = .ok (.getfield 42, 3) := by decide +kernel
theorem dX4_playRung_51 : decode cX4_playRung 51 = .ok (.if_icmp .gt 82, 3) := by decide +kernel
theorem dX4_playRung_54 : decode cX4_playRung 54 = .ok (.iload_n 2, 1) := by decide +kernel
theorem dX4_playRung_55 : decode cX4_playRung 55 = .ok (.bipush 33, 2) := by decide +kernel
theorem dX4_playRung_57 : decode cX4_playRung 57 = .ok (.imul, 1) := by decide +kernel
theorem dX4_playRung_58 : decode cX4_playRung 58 = .ok (.iload 10, 2) := by decide +kernel
theorem dX4_playRung_60 : decode cX4_playRung 60 = .ok (.iadd, 1) := by decide +kernel
theorem dX4_playRung_61 : decode cX4_playRung 61 = .ok (.istore 11, 2) := by decide +kernel
theorem dX4_playRung_63 : decode cX4_playRung 63 = .ok (.aload_n 0, 1) := by decide +kernel
theorem dX4_playRung_64 : decode cX4_playRung 64 = .ok (.getfield 34, 3) := by decide +kernel
theorem dX4_playRung_67 : decode cX4_playRung 67 = .ok (.iload 11, 2) := by decide +kernel
theorem dX4_playRung_69 : decode cX4_playRung 69 = .ok (.iaload, 1) := by decide +kernel
theorem dX4_playRung_70 : decode cX4_playRung 70 = .ok (.istore 12, 2) := by decide +kernel
theorem dX4_playRung_72 : decode cX4_playRung 72 = .ok (.aload 7, 2) := by decide +kernel
theorem dX4_playRung_74 : decode cX4_playRung 74 = .ok (.iload 11, 2) := by decide +kernel
theorem dX4_playRung_76 : decode cX4_playRung 76 = .ok (.iload 12, 2) := by decide +kernel
theorem dX4_playRung_78 : decode cX4_playRung 78 = .ok (.iconst 1, 1) := by decide +kernel
theorem dX4_playRung_79 : decode cX4_playRung 79 = .ok (.if_icmp .ge 15, 3) := by decide +kernel
theorem dX4_playRung_82 : decode cX4_playRung 82 = .ok (.ldc2_w 168, 3) := by decide +kernel
theorem dX4_playRung_85 : decode cX4_playRung 85 = .ok (.aload 6, 2) := by decide +kernel
theorem dX4_playRung_87 : decode cX4_playRung 87 = .ok (.iload 11, 2) := by decide +kernel
theorem dX4_playRung_89 : decode cX4_playRung 89 = .ok (.laload, 1) := by decide +kernel
theorem dX4_playRung_90 : decode cX4_playRung 90 = .ok (.lmul, 1) := by decide +kernel
theorem dX4_playRung_91 : decode cX4_playRung 91 = .ok (.goto 35, 3) := by decide +kernel
theorem dX4_playRung_94 : decode cX4_playRung 94 = .ok (.lload 8, 2) := by decide +kernel
theorem dX4_playRung_96 : decode cX4_playRung 96 = .ok (.aload_n 1, 1) := by decide +kernel
theorem dX4_playRung_97 : decode cX4_playRung 97 = .ok (.aload 6, 2) := by decide +kernel
theorem dX4_playRung_99 : decode cX4_playRung 99 = .ok (.aload_n 0, 1) := by decide +kernel
theorem dX4_playRung_100 : decode cX4_playRung 100 = .ok (.aload_n 1, 1) := by decide +kernel
theorem dX4_playRung_101 : decode cX4_playRung 101 = .ok (.iload 10, 2) := by decide +kernel
theorem dX4_playRung_103 : decode cX4_playRung 103 = .ok (.iload 12, 2) := by decide +kernel
theorem dX4_playRung_105 : decode cX4_playRung 105 = .ok (.invokevirtual 188, 3) := by decide +kernel
theorem dX4_playRung_108 : decode cX4_playRung 108 = .ok (.laload, 1) := by decide +kernel
theorem dX4_playRung_109 : decode cX4_playRung 109 = .ok (.aload 6, 2) := by decide +kernel
theorem dX4_playRung_111 : decode cX4_playRung 111 = .ok (.iload_n 3, 1) := by decide +kernel
theorem dX4_playRung_112 : decode cX4_playRung 112 = .ok (.bipush 33, 2) := by decide +kernel
theorem dX4_playRung_114 : decode cX4_playRung 114 = .ok (.imul, 1) := by decide +kernel
theorem dX4_playRung_115 : decode cX4_playRung 115 = .ok (.iload 10, 2) := by decide +kernel
theorem dX4_playRung_117 : decode cX4_playRung 117 = .ok (.iadd, 1) := by decide +kernel
theorem dX4_playRung_118 : decode cX4_playRung 118 = .ok (.iload 12, 2) := by decide +kernel
theorem dX4_playRung_120 : decode cX4_playRung 120 = .ok (.isub, 1) := by decide +kernel
theorem dX4_playRung_121 : decode cX4_playRung 121 = .ok (.laload, 1) := by decide +kernel
theorem dX4_playRung_122 : decode cX4_playRung 122 = .ok (.invokestatic 192, 3) := by decide +kernel
theorem dX4_playRung_125 : decode cX4_playRung 125 = .ok (.ladd, 1) := by decide +kernel
theorem dX4_playRung_126 : decode cX4_playRung 126 = .ok (.lastore, 1) := by decide +kernel
theorem dX4_playRung_127 : decode cX4_playRung 127 = .ok (.iinc 10 1, 3) := by decide +kernel
theorem dX4_playRung_130 : decode cX4_playRung 130 = .ok (.goto (-85), 3) := by decide +kernel
theorem dX4_playRung_133 : decode cX4_playRung 133 = .ok (.return_, 1) := by decide +kernel
