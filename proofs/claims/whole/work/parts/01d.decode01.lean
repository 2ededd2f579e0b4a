theorem dX0_powerOfTen_0 : decode cX0_powerOfTen 0 = .ok (.lconst 1, 1) := by decide +kernel
theorem dX0_powerOfTen_1 : decode cX0_powerOfTen 1 = .ok (.lstore_n 1, 1) := by decide +kernel
theorem dX0_powerOfTen_2 : decode cX0_powerOfTen 2 = .ok (.iconst 0, 1) := by decide +kernel
theorem dX0_powerOfTen_3 : decode cX0_powerOfTen 3 = .ok (.istore_n 3, 1) := by decide +kernel
theorem dX0_powerOfTen_4 : decode cX0_powerOfTen 4 = .ok (.iload_n 3, 1) := by decide +kernel
theorem dX0_powerOfTen_5 : decode cX0_powerOfTen 5 = .ok (.iload_n 0, 1) := by decide +kernel
theorem dX0_powerOfTen_6 : decode cX0_powerOfTen 6 = .ok (.if_icmp .ge 15, 3) := by decide +kernel
theorem dX0_powerOfTen_9 : decode cX0_powerOfTen 9 = .ok (.lload_n 1, 1) := by decide +kernel
theorem dX0_powerOfTen_10 : decode cX0_powerOfTen 10 = .ok (.ldc2_w 7, 3) := by decide +kernel
theorem dX0_powerOfTen_13 : decode cX0_powerOfTen 13 = .ok (.lmul, 1) := by decide +kernel
theorem dX0_powerOfTen_14 : decode cX0_powerOfTen 14 = .ok (.lstore_n 1, 1) := by decide +kernel
theorem dX0_powerOfTen_15 : decode cX0_powerOfTen 15 = .ok (.iinc 3 1, 3) := by decide +kernel
theorem dX0_powerOfTen_18 : decode cX0_powerOfTen 18 = .ok (.goto (-14), 3) := by decide +kernel
theorem dX0_powerOfTen_21 : decode cX0_powerOfTen 21 = .ok (.lload_n 1, 1) := by decide +kernel
theorem dX0_powerOfTen_22 : decode cX0_powerOfTen 22 = .ok (.lreturn, 1) := by decide +kernel
set_option maxRecDepth 20000 in
theorem ggX0_beesInTenths_X0_powerOfTen : GoodIn wsX0_beesInTenths wsX0_powerOfTen := goodIn_r _ [7, 8] (by decide +kernel) (by decide +kernel)
set_option maxRecDepth 20000 in
theorem gX0_beesInTenths_X0_powerOfTen : GoodIn wsX0_beesInTenths (va_wsS RX0 15 yX0_powerOfTen wsX0_powerOfTen) := goodIn_app (goodIn_of _ (by decide +kernel)) ggX0_beesInTenths_X0_powerOfTen
set_option maxRecDepth 20000 in
theorem ggX0_beesInTenths_X0_worth : GoodIn wsX0_beesInTenths wsX0_worth := goodIn_r _ [11, 12, 13, 14, 15] (by decide +kernel) (by decide +kernel)
set_option maxRecDepth 20000 in
theorem gX0_beesInTenths_X0_worth : GoodIn wsX0_beesInTenths (va_wsS RX0 25 yX0_worth wsX0_worth) := goodIn_app (goodIn_of _ (by decide +kernel)) ggX0_beesInTenths_X0_worth
theorem dX0_beesInTenths_0 : decode cX0_beesInTenths 0 = .ok (.aload_n 0, 1) := by decide +kernel
theorem dX0_beesInTenths_1 : decode cX0_beesInTenths 1 = .ok (.getfield 9, 3) := by decide +kernel
theorem dX0_beesInTenths_4 : decode cX0_beesInTenths 4 = .ok (.iload_n 1, 1) := by decide +kernel
theorem dX0_beesInTenths_5 : decode cX0_beesInTenths 5 = .ok (.iaload, 1) := by decide +kernel
theorem dX0_beesInTenths_6 : decode cX0_beesInTenths 6 = .ok (.istore 5, 2) := by decide +kernel
theorem dX0_beesInTenths_8 : decode cX0_beesInTenths 8 = .ok (.lconst 1, 1) := by decide +kernel
theorem dX0_beesInTenths_9 : decode cX0_beesInTenths 9 = .ok (.lstore 6, 2) := by decide +kernel
theorem dX0_beesInTenths_11 : decode cX0_beesInTenths 11 = .ok (.lconst 0, 1) := by decide +kernel
theorem dX0_beesInTenths_12 : decode cX0_beesInTenths 12 = .ok (.lstore 8, 2) := by decide +kernel
theorem dX0_beesInTenths_14 : decode cX0_beesInTenths 14 = .ok (.iconst 0, 1) := by decide +kernel
theorem dX0_beesInTenths_15 : decode cX0_beesInTenths 15 = .ok (.istore 10, 2) := by decide +kernel
theorem dX0_beesInTenths_17 : decode cX0_beesInTenths 17 = .ok (.iload 10, 2) := by decide +kernel
theorem dX0_beesInTenths_19 : decode cX0_beesInTenths 19 = .ok (.iload_n 2, 1) := by decide +kernel
theorem dX0_beesInTenths_20 : decode cX0_beesInTenths 20 = .ok (.if_icmp .ge 59, 3) := by decide +kernel
theorem dX0_beesInTenths_23 : decode cX0_beesInTenths 23 = .ok (.lload 6, 2) := by decide +kernel
theorem dX0_beesInTenths_25 : decode cX0_beesInTenths 25 = .ok (.iload_n 3, 1) := by decide +kernel
theorem dX0_beesInTenths_26 : decode cX0_beesInTenths 26 = .ok (.i2l, 1) := by decide +kernel
theorem dX0_beesInTenths_27 : decode cX0_beesInTenths 27 = .ok (.lmul, 1) := by decide +kernel
theorem dX0_beesInTenths_28 : decode cX0_beesInTenths 28 = .ok (.iload_n 2, 1) := by decide +kernel
theorem dX0_beesInTenths_29 : decode cX0_beesInTenths 29 = .ok (.iconst 1, 1) := by decide +kernel
theorem dX0_beesInTenths_30 : decode cX0_beesInTenths 30 = .ok (.isub, 1) := by decide +kernel
theorem dX0_beesInTenths_31 : decode cX0_beesInTenths 31 = .ok (.iload 10, 2) := by decide +kernel
theorem dX0_beesInTenths_33 : decode cX0_beesInTenths 33 = .ok (.isub, 1) := by decide +kernel
theorem dX0_beesInTenths_34 : decode cX0_beesInTenths 34 = .ok (.invokestatic 15, 3) := by decide +kernel
theorem dX0_beesInTenths_37 : decode cX0_beesInTenths 37 = .ok (.lmul, 1) := by decide +kernel
theorem dX0_beesInTenths_38 : decode cX0_beesInTenths 38 = .ok (.lstore 11, 2) := by decide +kernel
theorem dX0_beesInTenths_40 : decode cX0_beesInTenths 40 = .ok (.lload 8, 2) := by decide +kernel
theorem dX0_beesInTenths_42 : decode cX0_beesInTenths 42 = .ok (.lload 11, 2) := by decide +kernel
theorem dX0_beesInTenths_44 : decode cX0_beesInTenths 44 = .ok (.aload_n 0, 1) := by decide +kernel
theorem dX0_beesInTenths_45 : decode cX0_beesInTenths 45 = .ok (.getfield 21, 3) := by decide +kernel
theorem dX0_beesInTenths_48 : decode cX0_beesInTenths 48 = .ok (.iload 10, 2) := by decide +kernel
theorem dX0_beesInTenths_50 : decode cX0_beesInTenths 50 = .ok (.iload 5, 2) := by decide +kernel
theorem dX0_beesInTenths_52 : decode cX0_beesInTenths 52 = .ok (.imul, 1) := by decide +kernel
theorem dX0_beesInTenths_53 : decode cX0_beesInTenths 53 = .ok (.isub, 1) := by decide +kernel
theorem dX0_beesInTenths_54 : decode cX0_beesInTenths 54 = .ok (.iload 4, 2) := by decide +kernel
theorem dX0_beesInTenths_56 : decode cX0_beesInTenths 56 = .ok (.invokestatic 25, 3) := by decide +kernel
theorem dX0_beesInTenths_59 : decode cX0_beesInTenths 59 = .ok (.lmul, 1) := by decide +kernel
theorem dX0_beesInTenths_60 : decode cX0_beesInTenths 60 = .ok (.ladd, 1) := by decide +kernel
theorem dX0_beesInTenths_61 : decode cX0_beesInTenths 61 = .ok (.lstore 8, 2) := by decide +kernel
theorem dX0_beesInTenths_63 : decode cX0_beesInTenths 63 = .ok (.lload 6, 2) := by decide +kernel
theorem dX0_beesInTenths_65 : decode cX0_beesInTenths 65 = .ok (.bipush 10, 2) := by decide +kernel
theorem dX0_beesInTenths_67 : decode cX0_beesInTenths 67 = .ok (.iload_n 3, 1) := by decide +kernel
theorem dX0_beesInTenths_68 : decode cX0_beesInTenths 68 = .ok (.isub, 1) := by decide +kernel
theorem dX0_beesInTenths_69 : decode cX0_beesInTenths 69 = .ok (.i2l, 1) := by decide +kernel
theorem dX0_beesInTenths_70 : decode cX0_beesInTenths 70 = .ok (.lmul, 1) := by decide +kernel
theorem dX0_beesInTenths_71 : decode cX0_beesInTenths 71 = .ok (.lstore 6, 2) := by decide +kernel
theorem dX0_beesInTenths_73 : decode cX0_beesInTenths 73 = .ok (.iinc 10 1, 3) := by decide +kernel
theorem dX0_beesInTenths_76 : decode cX0_beesInTenths 76 = .ok (.goto (-59), 3) := by decide +kernel
theorem dX0_beesInTenths_79 : decode cX0_beesInTenths 79 = .ok (.lload 8, 2) := by decide +kernel
theorem dX0_beesInTenths_81 : decode cX0_beesInTenths 81 = .ok (.lload 6, 2) := by decide +kernel
theorem dX0_beesInTenths_83 : decode cX0_beesInTenths 83 = .ok (.aload_n 0, 1) := by decide +kernel
theorem dX0_beesInTenths_84 : decode cX0_beesInTenths 84 = .ok (.getfield 29, 3) := by decide +kernel
theorem dX0_beesInTenths_87 : decode cX0_beesInTenths 87 = .ok (.iload_n 1, 1) := by decide +kernel
theorem dX0_beesInTenths_88 : decode cX0_beesInTenths 88 = .ok (.iaload, 1) := by decide +kernel
theorem dX0_beesInTenths_89 : decode cX0_beesInTenths 89 = .ok (.iload_n 2, 1) := by decide +kernel
theorem dX0_beesInTenths_90 : decode cX0_beesInTenths 90 = .ok (.iload 5, 2) := by decide +kernel
theorem dX0_beesInTenths_92 : decode cX0_beesInTenths 92 = .ok (.imul, 1) := by decide +kernel
theorem dX0_beesInTenths_93 : decode cX0_beesInTenths 93 = .ok (.isub, 1) := by decide +kernel
theorem dX0_beesInTenths_94 : decode cX0_beesInTenths 94 = .ok (.iload 4, 2) := by decide +kernel
theorem dX0_beesInTenths_96 : decode cX0_beesInTenths 96 = .ok (.invokestatic 25, 3) := by decide +kernel
theorem dX0_beesInTenths_99 : decode cX0_beesInTenths 99 = .ok (.lmul, 1) := by decide +kernel
theorem dX0_beesInTenths_100 : decode cX0_beesInTenths 100 = .ok (.ladd, 1) := by decide +kernel
theorem dX0_beesInTenths_101 : decode cX0_beesInTenths 101 = .ok (.lreturn, 1) := by decide +kernel
theorem dX0_worth_0 : decode cX0_worth 0 = .ok (.iload_n 1, 1) := by decide +kernel
theorem dX0_worth_1 : decode cX0_worth 1 = .ok (.ifCond .eq 13, 3) := by decide +kernel
theorem dX0_worth_4 : decode cX0_worth 4 = .ok (.iload_n 0, 1) := by decide +kernel
theorem dX0_worth_5 : decode cX0_worth 5 = .ok (.ifCond .gt 7, 3) := by decide +kernel
theorem dX0_worth_8 : decode cX0_worth 8 = .ok (.lconst 1, 1) := by decide +kernel
theorem dX0_worth_9 : decode cX0_worth 9 = .ok (.goto 4, 3) := by decide +kernel
theorem dX0_worth_12 : decode cX0_worth 12 = .ok (.lconst 0, 1) := by decide +kernel
theorem dX0_worth_13 : decode cX0_worth 13 = .ok (.lreturn, 1) := by decide +kernel
theorem dX0_worth_14 : decode cX0_worth 14 = .ok (.iconst 0, 1) := by decide +kernel
theorem dX0_worth_15 : decode cX0_worth 15 = .ok (.iload_n 0, 1) := by decide +kernel
theorem dX0_worth_16 : decode cX0_worth 16 = .ok (.invokestatic 32, 3) := by decide +kernel
theorem dX0_worth_19 : decode cX0_worth 19 = .ok (.i2l, 1) := by decide +kernel
theorem dX0_worth_20 : decode cX0_worth 20 = .ok (.lreturn, 1) := by decide +kernel
set_option maxRecDepth 20000 in
theorem ggX0_partInLowestTerms_X0_greatestDivisor : GoodIn wsX0_partInLowestTerms wsX0_greatestDivisor := goodIn_r _ [4] (by decide +kernel) (by decide +kernel)
set_option maxRecDepth 20000 in
theorem gX0_partInLowestTerms_X0_greatestDivisor : GoodIn wsX0_partInLowestTerms (va_wsS RX0 38 yX0_greatestDivisor wsX0_greatestDivisor) := goodIn_app (goodIn_of _ (by decide +kernel)) ggX0_partInLowestTerms_X0_greatestDivisor
theorem dX0_partInLowestTerms_0 : decode cX0_partInLowestTerms 0 = .ok (.lload_n 0, 1) := by decide +kernel
theorem dX0_partInLowestTerms_1 : decode cX0_partInLowestTerms 1 = .ok (.lload_n 2, 1) := by decide +kernel
theorem dX0_partInLowestTerms_2 : decode cX0_partInLowestTerms 2 = .ok (.invokestatic 38, 3) := by decide +kernel
theorem dX0_partInLowestTerms_5 : decode cX0_partInLowestTerms 5 = .ok (.lstore 5, 2) := by decide +kernel
theorem dX0_partInLowestTerms_7 : decode cX0_partInLowestTerms 7 = .ok (.iload 4, 2) := by decide +kernel
theorem dX0_partInLowestTerms_9 : decode cX0_partInLowestTerms 9 = .ok (.ifCond .ne 7, 3) := by decide +kernel
theorem dX0_partInLowestTerms_12 : decode cX0_partInLowestTerms 12 = .ok (.lload_n 0, 1) := by decide +kernel
theorem dX0_partInLowestTerms_13 : decode cX0_partInLowestTerms 13 = .ok (.goto 4, 3) := by decide +kernel
theorem dX0_partInLowestTerms_16 : decode cX0_partInLowestTerms 16 = .ok (.lload_n 2, 1) := by decide +kernel
theorem dX0_partInLowestTerms_17 : decode cX0_partInLowestTerms 17 = .ok (.lstore 7, 2) := by decide +kernel
theorem dX0_partInLowestTerms_19 : decode cX0_partInLowestTerms 19 = .ok (.lload 5, 2) := by decide +kernel
theorem dX0_partInLowestTerms_21 : decode cX0_partInLowestTerms 21 = .ok (.lconst 0, 1) := by decide +kernel
theorem dX0_partInLowestTerms_22 : decode cX0_partInLowestTerms 22 = .ok (.lcmp, 1) := by decide +kernel
theorem dX0_partInLowestTerms_23 : decode cX0_partInLowestTerms 23 = .ok (.ifCond .le 11, 3) := by decide +kernel
theorem dX0_partInLowestTerms_26 : decode cX0_partInLowestTerms 26 = .ok (.lload 7, 2) := by decide +kernel
theorem dX0_partInLowestTerms_28 : decode cX0_partInLowestTerms 28 = .ok (.lload 5, 2) := by decide +kernel
theorem dX0_partInLowestTerms_30 : decode cX0_partInLowestTerms 30 = .ok (.ldiv, 1) := by decide +kernel
theorem dX0_partInLowestTerms_31 : decode cX0_partInLowestTerms 31 = .ok (.goto 5, 3) := by decide +kernel
theorem dX0_partInLowestTerms_34 : decode cX0_partInLowestTerms 34 = .ok (.lload 7, 2) := by decide +kernel
theorem dX0_partInLowestTerms_36 : decode cX0_partInLowestTerms 36 = .ok (.lreturn, 1) := by decide +kernel
theorem dX0_greatestDivisor_0 : decode cX0_greatestDivisor 0 = .ok (.lload_n 0, 1) := by decide +kernel
theorem dX0_greatestDivisor_1 : decode cX0_greatestDivisor 1 = .ok (.lstore 4, 2) := by decide +kernel
theorem dX0_greatestDivisor_3 : decode cX0_greatestDivisor 3 = .ok (.lload_n 2, 1) := by decide +kernel
theorem dX0_greatestDivisor_4 : decode cX0_greatestDivisor 4 = .ok (.lstore 6, 2) := by decide +kernel
theorem dX0_greatestDivisor_6 : decode cX0_greatestDivisor 6 = .ok (.iconst 0, 1) := by decide +kernel
theorem dX0_greatestDivisor_7 : decode cX0_greatestDivisor 7 = .ok (.istore 8, 2) := by decide +kernel
theorem dX0_greatestDivisor_9 : decode cX0_greatestDivisor 9 = .ok (.iload 8, 2) := by decide +kernel
theorem dX0_greatestDivisor_11 : decode cX0_greatestDivisor 11 = .ok (.bipush 100, 2) := by decide +kernel
theorem dX0_greatestDivisor_13 : decode cX0_greatestDivisor 13 = .ok (.if_icmp .ge 31, 3) := by decide +kernel
theorem dX0_greatestDivisor_16 : decode cX0_greatestDivisor 16 = .ok (.lload 6, 2) := by decide +kernel
theorem dX0_greatestDivisor_18 : decode cX0_greatestDivisor 18 = .ok (.lconst 0, 1) := by decide +kernel
theorem dX0_greatestDivisor_19 : decode cX0_greatestDivisor 19 = .ok (.lcmp, 1) := by decide +kernel
theorem dX0_greatestDivisor_20 : decode cX0_greatestDivisor 20 = .ok (.ifCond .eq 24, 3) := by decide +kernel
theorem dX0_greatestDivisor_23 : decode cX0_greatestDivisor 23 = .ok (.lload 4, 2) := by decide +kernel
theorem dX0_greatestDivisor_25 : decode cX0_greatestDivisor 25 = .ok (.lload 6, 2) := by decide +kernel
theorem dX0_greatestDivisor_27 : decode cX0_greatestDivisor 27 = .ok (.lrem, 1) := by decide +kernel
theorem dX0_greatestDivisor_28 : decode cX0_greatestDivisor 28 = .ok (.lstore 9, 2) := by decide +kernel
theorem dX0_greatestDivisor_30 : decode cX0_greatestDivisor 30 = .ok (.lload 6, 2) := by decide +kernel
theorem dX0_greatestDivisor_32 : decode cX0_greatestDivisor 32 = .ok (.lstore 4, 2) := by decide +kernel
theorem dX0_greatestDivisor_34 : decode cX0_greatestDivisor 34 = .ok (.lload 9, 2) := by decide +kernel
theorem dX0_greatestDivisor_36 : decode cX0_greatestDivisor 36 = .ok (.lstore 6, 2) := by decide +kernel
theorem dX0_greatestDivisor_38 : decode cX0_greatestDivisor 38 = .ok (.iinc 8 1, 3) := by decide +kernel
theorem dX0_greatestDivisor_41 : decode cX0_greatestDivisor 41 = .ok (.goto (-32), 3) := by decide +kernel
theorem dX0_greatestDivisor_44 : decode cX0_greatestDivisor 44 = .ok (.lload 4, 2) := by decide +kernel
theorem dX0_greatestDivisor_46 : decode cX0_greatestDivisor 46 = .ok (.lreturn, 1) := by decide +kernel
set_option maxRecDepth 20000 in
theorem ggX1_init_X2_init : GoodIn wsX1_init wsX2_init := goodIn_r _ [9, 10, 2, 3, 11, 12, 13, 14, 15, 16, 17, 18, 19, 20, 21, 22] (by decide +kernel) (by decide +kernel)
set_option maxRecDepth 20000 in
theorem gX1_init_X2_init_n11 : GoodIn wsX1_init (wsX2_init) := ggX1_init_X2_init
theorem dX1_init_0 : decode cX1_init 0 = .ok (.aload_n 0, 1) := by decide +kernel
theorem dX1_init_1 : decode cX1_init 1 = .ok (.invokespecial 3, 3) := by decide +kernel
theorem dX1_init_4 : decode cX1_init 4 = .ok (.aload_n 0, 1) := by decide +kernel
theorem dX1_init_5 : decode cX1_init 5 = .ok (.new 9, 3) := by decide +kernel
theorem dX1_init_8 : decode cX1_init 8 = .ok (.dup, 1) := by decide +kernel
theorem dX1_init_9 : decode cX1_init 9 = .ok (.invokespecial 11, 3) := by decide +kernel
theorem dX1_init_12 : decode cX1_init 12 = .ok (.putfield 12, 3) := by decide +kernel
theorem dX1_init_15 : decode cX1_init 15 = .ok (.return_, 1) := by decide +kernel
set_option maxRecDepth 20000 in
theorem ggX1_follow_X5_readActs : GoodIn wsX1_follow wsX5_readActs := goodIn_r _ [10, 11, 12, 13, 14, 15, 9, 16, 17, 18, 19, 20, 21, 22, 23, 24, 25, 26, 27, 28, 29, 30, 31, 146, 147, 148, 149, 150] (by decide +kernel) (by decide +kernel)
set_option maxRecDepth 20000 in
theorem gX1_follow_X5_readActs : GoodIn wsX1_follow (wsV RX1 18 RX5 yX5_readActs wsX5_readActs) := goodIn_app (goodIn_of _ (by decide +kernel)) ggX1_follow_X5_readActs
set_option maxRecDepth 20000 in
theorem ggX1_follow_X1_begin : GoodIn wsX1_follow wsX1_begin := goodIn_r _ [36, 37, 3, 38, 39, 40, 41, 42, 43, 44, 45, 46, 47, 48, 49, 50, 51, 52, 53, 54, 55, 56, 57, 58, 59, 60, 61, 62, 63, 64, 139, 140, 141, 142, 143, 144, 145, 151, 152, 153, 154, 155, 156] (by decide +kernel) (by decide +kernel)
set_option maxRecDepth 20000 in
theorem gX1_follow_X1_begin : GoodIn wsX1_follow (wsV RX1 28 RX1 yX1_begin wsX1_begin) := goodIn_app (goodIn_of _ (by decide +kernel)) ggX1_follow_X1_begin
set_option maxRecDepth 20000 in
theorem ggX1_follow_X1_pass : GoodIn wsX1_follow wsX1_pass := goodIn_r _ [68, 37, 3, 38, 41, 69, 70, 71, 72, 45, 73, 48, 61, 62, 63, 64, 47, 74, 24, 9, 25, 26, 27, 28, 75, 76, 77, 78, 79, 80, 81, 82, 83, 84, 85, 35, 86, 39, 40, 87, 88, 89, 90, 51, 91, 92, 93, 94, 56, 95, 96, 97, 98, 57, 58, 59, 60, 99, 100, 101, 102, 49, 103, 104, 105, 106, 107, 108, 109, 110, 111, 112, 113, 114, 115, 116, 117, 118, 119, 120, 121, 122, 123, 124, 125, 126, 127, 128, 129, 130, 131, 132, 133, 134, 135, 136, 137, 138, 139, 140, 141, 142, 143, 144, 145, 151, 152, 153, 154, 155, 156] (by decide +kernel) (by decide +kernel)
set_option maxRecDepth 20000 in
theorem gX1_follow_X1_pass : GoodIn wsX1_follow (wsV RX1 46 RX1 yX1_pass wsX1_pass) := goodIn_app (goodIn_of _ (by decide +kernel)) ggX1_follow_X1_pass
theorem dX1_follow_0 : decode cX1_follow 0 = .ok (.aload_n 0, 1) := by decide +kernel
theorem dX1_follow_1 : decode cX1_follow 1 = .ok (.aload_n 1, 1) := by decide +kernel
theorem dX1_follow_2 : decode cX1_follow 2 = .ok (.invokevirtual 18, 3) := by decide +kernel
theorem dX1_follow_5 : decode cX1_follow 5 = .ok (.bipush (-6), 2) := by decide +kernel
theorem dX1_follow_7 : decode cX1_follow 7 = .ok (.if_icmp .eq 7, 3) := by decide +kernel
theorem dX1_follow_10 : decode cX1_follow 10 = .ok (.iconst 1, 1) := by decide +kernel
theorem dX1_follow_11 : decode cX1_follow 11 = .ok (.goto 4, 3) := by decide +kernel
theorem dX1_follow_14 : decode cX1_follow 14 = .ok (.iconst 0, 1) := by decide +kernel
theorem dX1_follow_15 : decode cX1_follow 15 = .ok (.putfield 24, 3) := by decide +kernel
theorem dX1_follow_18 : decode cX1_follow 18 = .ok (.aload_n 0, 1) := by decide +kernel
theorem dX1_follow_19 : decode cX1_follow 19 = .ok (.aload_n 2, 1) := by decide +kernel
theorem dX1_follow_20 : decode cX1_follow 20 = .ok (.invokevirtual 28, 3) := by decide +kernel
theorem dX1_follow_23 : decode cX1_follow 23 = .ok (.iconst 0, 1) := by decide +kernel
theorem dX1_follow_24 : decode cX1_follow 24 = .ok (.istore_n 3, 1) := by decide +kernel
theorem dX1_follow_25 : decode cX1_follow 25 = .ok (.iload_n 3, 1) := by decide +kernel
theorem dX1_follow_26 : decode cX1_follow 26 = .ok (.aload_n 1, 1) := by decide +kernel
theorem dX1_follow_27 : decode cX1_follow 27 = .ok (.getfield 32, 3) := by decide +kernel
theorem dX1_follow_30 : decode cX1_follow 30 = .ok (.if_icmp .ge 42, 3) := by decide +kernel
theorem dX1_follow_33 : decode cX1_follow 33 = .ok (.aload_n 0, 1) := by decide +kernel
theorem dX1_follow_34 : decode cX1_follow 34 = .ok (.getfield 24, 3) := by decide +kernel
theorem dX1_follow_37 : decode cX1_follow 37 = .ok (.ifCond .ne 35, 3) := by decide +kernel
theorem dX1_follow_40 : decode cX1_follow 40 = .ok (.aload_n 0, 1) := by decide +kernel
theorem dX1_follow_41 : decode cX1_follow 41 = .ok (.getfield 36, 3) := by decide +kernel
theorem dX1_follow_44 : decode cX1_follow 44 = .ok (.bipush (-6), 2) := by decide +kernel
theorem dX1_follow_46 : decode cX1_follow 46 = .ok (.if_icmp .ne 26, 3) := by decide +kernel
theorem dX1_follow_49 : decode cX1_follow 49 = .ok (.aload_n 0, 1) := by decide +kernel
theorem dX1_follow_50 : decode cX1_follow 50 = .ok (.iload_n 3, 1) := by decide +kernel
theorem dX1_follow_51 : decode cX1_follow 51 = .ok (.aload_n 1, 1) := by decide +kernel
theorem dX1_follow_52 : decode cX1_follow 52 = .ok (.getfield 39, 3) := by decide +kernel
theorem dX1_follow_55 : decode cX1_follow 55 = .ok (.iload_n 3, 1) := by decide +kernel
theorem dX1_follow_56 : decode cX1_follow 56 = .ok (.iaload, 1) := by decide +kernel
theorem dX1_follow_57 : decode cX1_follow 57 = .ok (.aload_n 1, 1) := by decide +kernel
theorem dX1_follow_58 : decode cX1_follow 58 = .ok (.getfield 43, 3) := by decide +kernel
theorem dX1_follow_61 : decode cX1_follow 61 = .ok (.iload_n 3, 1) := by decide +kernel
theorem dX1_follow_62 : decode cX1_follow 62 = .ok (.iaload, 1) := by decide +kernel
theorem dX1_follow_63 : decode cX1_follow 63 = .ok (.invokevirtual 46, 3) := by decide +kernel
theorem dX1_follow_66 : decode cX1_follow 66 = .ok (.iinc 3 1, 3) := by decide +kernel
theorem dX1_follow_69 : decode cX1_follow 69 = .ok (.goto (-44), 3) := by decide +kernel
theorem dX1_follow_72 : decode cX1_follow 72 = .ok (.aload_n 0, 1) := by decide +kernel
theorem dX1_follow_73 : decode cX1_follow 73 = .ok (.getfield 24, 3) := by decide +kernel
theorem dX1_follow_76 : decode cX1_follow 76 = .ok (.ifCond .ne 16, 3) := by decide +kernel
theorem dX1_follow_79 : decode cX1_follow 79 = .ok (.aload_n 0, 1) := by decide +kernel
theorem dX1_follow_80 : decode cX1_follow 80 = .ok (.getfield 36, 3) := by decide +kernel
theorem dX1_follow_83 : decode cX1_follow 83 = .ok (.bipush (-6), 2) := by decide +kernel
theorem dX1_follow_85 : decode cX1_follow 85 = .ok (.if_icmp .ne 7, 3) := by decide +kernel
theorem dX1_follow_88 : decode cX1_follow 88 = .ok (.iconst 1, 1) := by decide +kernel
theorem dX1_follow_89 : decode cX1_follow 89 = .ok (.goto 4, 3) := by decide +kernel
theorem dX1_follow_92 : decode cX1_follow 92 = .ok (.iconst 0, 1) := by decide +kernel
theorem dX1_follow_93 : decode cX1_follow 93 = .ok (.ireturn, 1) := by decide +kernel
set_option maxRecDepth 20000 in
theorem ggX1_begin_X2_copyFrom : GoodIn wsX1_begin wsX2_copyFrom := goodIn_r _ [11, 12, 13, 14, 15, 16, 17, 18, 19, 20, 21, 37, 38, 39, 40, 41, 42] (by decide +kernel) (by decide +kernel)
set_option maxRecDepth 20000 in
theorem gX1_begin_X2_copyFrom : GoodIn wsX1_begin (wsV RX1 50 RX2 yX2_copyFrom wsX2_copyFrom) := goodIn_app (goodIn_of _ (by decide +kernel)) ggX1_begin_X2_copyFrom
set_option maxRecDepth 20000 in
theorem ggX1_begin_X2_atNought : GoodIn wsX1_begin wsX2_atNought := goodIn_r _ [25, 16, 26, 27, 28, 10, 29, 12, 37, 38, 39, 40, 41, 42] (by decide +kernel) (by decide +kernel)
set_option maxRecDepth 20000 in
theorem gX1_begin_X2_atNought : GoodIn wsX1_begin (wsV RX1 59 RX2 yX2_atNought wsX2_atNought) := goodIn_app (goodIn_of _ (by decide +kernel)) ggX1_begin_X2_atNought
theorem dX1_begin_0 : decode cX1_begin 0 = .ok (.aload_n 0, 1) := by decide +kernel
theorem dX1_begin_1 : decode cX1_begin 1 = .ok (.getfield 12, 3) := by decide +kernel
theorem dX1_begin_4 : decode cX1_begin 4 = .ok (.aload_n 1, 1) := by decide +kernel
theorem dX1_begin_5 : decode cX1_begin 5 = .ok (.invokevirtual 50, 3) := by decide +kernel
theorem dX1_begin_8 : decode cX1_begin 8 = .ok (.aload_n 0, 1) := by decide +kernel
theorem dX1_begin_9 : decode cX1_begin 9 = .ok (.bipush (-6), 2) := by decide +kernel
theorem dX1_begin_11 : decode cX1_begin 11 = .ok (.putfield 36, 3) := by decide +kernel
theorem dX1_begin_14 : decode cX1_begin 14 = .ok (.aload_n 0, 1) := by decide +kernel
theorem dX1_begin_15 : decode cX1_begin 15 = .ok (.bipush (-6), 2) := by decide +kernel
theorem dX1_begin_17 : decode cX1_begin 17 = .ok (.putfield 53, 3) := by decide +kernel
theorem dX1_begin_20 : decode cX1_begin 20 = .ok (.aload_n 0, 1) := by decide +kernel
theorem dX1_begin_21 : decode cX1_begin 21 = .ok (.iconst 0, 1) := by decide +kernel
theorem dX1_begin_22 : decode cX1_begin 22 = .ok (.putfield 56, 3) := by decide +kernel
theorem dX1_begin_25 : decode cX1_begin 25 = .ok (.aload_n 0, 1) := by decide +kernel
theorem dX1_begin_26 : decode cX1_begin 26 = .ok (.aload_n 0, 1) := by decide +kernel
theorem dX1_begin_27 : decode cX1_begin 27 = .ok (.getfield 12, 3) := by decide +kernel
theorem dX1_begin_30 : decode cX1_begin 30 = .ok (.invokevirtual 59, 3) := by decide +kernel
theorem dX1_begin_33 : decode cX1_begin 33 = .ok (.ifCond .eq 7, 3) := by decide +kernel
theorem dX1_begin_36 : decode cX1_begin 36 = .ok (.iconst 0, 1) := by decide +kernel
theorem dX1_begin_37 : decode cX1_begin 37 = .ok (.goto 5, 3) := by decide +kernel
theorem dX1_begin_40 : decode cX1_begin 40 = .ok (.bipush (-6), 2) := by decide +kernel
theorem dX1_begin_42 : decode cX1_begin 42 = .ok (.putfield 62, 3) := by decide +kernel
theorem dX1_begin_45 : decode cX1_begin 45 = .ok (.aload_n 0, 1) := by decide +kernel
theorem dX1_begin_46 : decode cX1_begin 46 = .ok (.bipush (-6), 2) := by decide +kernel
theorem dX1_begin_48 : decode cX1_begin 48 = .ok (.putfield 65, 3) := by decide +kernel
theorem dX1_begin_51 : decode cX1_begin 51 = .ok (.return_, 1) := by decide +kernel
set_option maxRecDepth 20000 in
theorem ggX1_pass_X2_whyNot : GoodIn wsX1_pass wsX2_whyNot := goodIn_r _ [10, 11, 12, 13, 14, 9, 15, 16, 17, 18, 19, 20, 21, 22, 23, 24, 25, 26, 27, 28, 29, 30, 31, 105, 106, 107, 108, 109, 110] (by decide +kernel) (by decide +kernel)
set_option maxRecDepth 20000 in
theorem gX1_pass_X2_whyNot : GoodIn wsX1_pass (wsV RX1 68 RX2 yX2_whyNot wsX2_whyNot) := goodIn_app (goodIn_of _ (by decide +kernel)) ggX1_pass_X2_whyNot
set_option maxRecDepth 20000 in
theorem ggX1_pass_X1_passBreaths : GoodIn wsX1_pass wsX1_passBreaths := goodIn_r _ [36, 1, 37, 38, 39, 40, 41, 9, 42, 43, 28, 29, 30, 31, 11, 44, 45, 46, 47, 48, 49, 50, 51, 52, 53, 54, 55, 56, 12, 13, 14, 15, 16, 98, 99, 100, 101, 102, 103, 104, 105, 106, 107, 108, 109, 110] (by decide +kernel) (by decide +kernel)
set_option maxRecDepth 20000 in
theorem gX1_pass_X1_passBreaths : GoodIn wsX1_pass (wsV RX1 72 RX1 yX1_passBreaths wsX1_passBreaths) := goodIn_app (goodIn_of _ (by decide +kernel)) ggX1_pass_X1_passBreaths
set_option maxRecDepth 20000 in
theorem ggX1_pass_X2_act : GoodIn wsX1_pass wsX2_act := goodIn_r _ [60, 11, 43, 61, 62, 63, 51, 64, 65, 40, 41, 9, 42, 28, 29, 30, 31, 44, 45, 46, 47, 48, 49, 50, 52, 66, 67, 68, 69, 70, 71, 72, 73, 74, 75, 76, 77, 78, 79, 80, 81, 82, 83, 84, 85, 86, 87, 88, 89, 105, 106, 107, 108, 109, 110] (by decide +kernel) (by decide +kernel)
set_option maxRecDepth 20000 in
theorem gX1_pass_X2_act : GoodIn wsX1_pass (wsV RX1 76 RX2 yX2_act wsX2_act) := goodIn_app (goodIn_of _ (by decide +kernel)) ggX1_pass_X2_act
set_option maxRecDepth 20000 in
theorem ggX1_pass_X2_spread : GoodIn wsX1_pass wsX2_spread := goodIn_r _ [93, 11, 43, 74, 75, 76, 9, 77, 28, 29, 30, 31, 94, 95, 96, 97, 49, 50, 51, 52, 105, 106, 107, 108, 109, 110] (by decide +kernel) (by decide +kernel)
set_option maxRecDepth 20000 in
theorem gX1_pass_X2_spread : GoodIn wsX1_pass (wsV RX1 80 RX2 yX2_spread wsX2_spread) := goodIn_app (goodIn_of _ (by decide +kernel)) ggX1_pass_X2_spread
theorem dX1_pass_0 : decode cX1_pass 0 = .ok (.aload_n 0, 1) := by decide +kernel
theorem dX1_pass_1 : decode cX1_pass 1 = .ok (.getfield 12, 3) := by decide +kernel
theorem dX1_pass_4 : decode cX1_pass 4 = .ok (.iload_n 2, 1) := by decide +kernel
theorem dX1_pass_5 : decode cX1_pass 5 = .ok (.iload_n 3, 1) := by decide +kernel
theorem dX1_pass_6 : decode cX1_pass 6 = .ok (.invokevirtual 68, 3) := by decide +kernel
theorem dX1_pass_9 : decode cX1_pass 9 = .ok (.istore 4, 2) := by decide +kernel
theorem dX1_pass_11 : decode cX1_pass 11 = .ok (.iload 4, 2) := by decide +kernel
theorem dX1_pass_13 : decode cX1_pass 13 = .ok (.ifCond .eq 15, 3) := by decide +kernel
theorem dX1_pass_16 : decode cX1_pass 16 = .ok (.aload_n 0, 1) := by decide +kernel
theorem dX1_pass_17 : decode cX1_pass 17 = .ok (.iload_n 1, 1) := by decide +kernel
theorem dX1_pass_18 : decode cX1_pass 18 = .ok (.putfield 36, 3) := by decide +kernel
theorem dX1_pass_21 : decode cX1_pass 21 = .ok (.aload_n 0, 1) := by decide +kernel
theorem dX1_pass_22 : decode cX1_pass 22 = .ok (.iload 4, 2) := by decide +kernel
theorem dX1_pass_24 : decode cX1_pass 24 = .ok (.putfield 53, 3) := by decide +kernel
theorem dX1_pass_27 : decode cX1_pass 27 = .ok (.return_, 1) := by decide +kernel
theorem dX1_pass_28 : decode cX1_pass 28 = .ok (.iload_n 3, 1) := by decide +kernel
theorem dX1_pass_29 : decode cX1_pass 29 = .ok (.bipush 46, 2) := by decide +kernel
theorem dX1_pass_31 : decode cX1_pass 31 = .ok (.if_icmp .eq 9, 3) := by decide +kernel
theorem dX1_pass_34 : decode cX1_pass 34 = .ok (.iload_n 3, 1) := by decide +kernel
theorem dX1_pass_35 : decode cX1_pass 35 = .ok (.bipush 58, 2) := by decide +kernel
theorem dX1_pass_37 : decode cX1_pass 37 = .ok (.if_icmp .ne 22, 3) := by decide +kernel
theorem dX1_pass_40 : decode cX1_pass 40 = .ok (.aload_n 0, 1) := by decide +kernel
theorem dX1_pass_41 : decode cX1_pass 41 = .ok (.iload_n 3, 1) := by decide +kernel
theorem dX1_pass_42 : decode cX1_pass 42 = .ok (.bipush 46, 2) := by decide +kernel
theorem dX1_pass_44 : decode cX1_pass 44 = .ok (.if_icmp .ne 7, 3) := by decide +kernel
theorem dX1_pass_47 : decode cX1_pass 47 = .ok (.iconst 1, 1) := by decide +kernel
theorem dX1_pass_48 : decode cX1_pass 48 = .ok (.goto 5, 3) := by decide +kernel
theorem dX1_pass_51 : decode cX1_pass 51 = .ok (.bipush 10, 2) := by decide +kernel
theorem dX1_pass_53 : decode cX1_pass 53 = .ok (.invokevirtual 72, 3) := by decide +kernel
theorem dX1_pass_56 : decode cX1_pass 56 = .ok (.goto 12, 3) := by decide +kernel
theorem dX1_pass_59 : decode cX1_pass 59 = .ok (.aload_n 0, 1) := by decide +kernel
theorem dX1_pass_60 : decode cX1_pass 60 = .ok (.getfield 12, 3) := by decide +kernel
theorem dX1_pass_63 : decode cX1_pass 63 = .ok (.iload_n 2, 1) := by decide +kernel
theorem dX1_pass_64 : decode cX1_pass 64 = .ok (.iload_n 3, 1) := by decide +kernel
theorem dX1_pass_65 : decode cX1_pass 65 = .ok (.invokevirtual 76, 3) := by decide +kernel
theorem dX1_pass_68 : decode cX1_pass 68 = .ok (.aload_n 0, 1) := by decide +kernel
theorem dX1_pass_69 : decode cX1_pass 69 = .ok (.getfield 65, 3) := by decide +kernel
theorem dX1_pass_72 : decode cX1_pass 72 = .ok (.bipush (-6), 2) := by decide +kernel
theorem dX1_pass_74 : decode cX1_pass 74 = .ok (.if_icmp .ne 25, 3) := by decide +kernel
theorem dX1_pass_77 : decode cX1_pass 77 = .ok (.aload_n 0, 1) := by decide +kernel
theorem dX1_pass_78 : decode cX1_pass 78 = .ok (.getfield 12, 3) := by decide +kernel
theorem dX1_pass_81 : decode cX1_pass 81 = .ok (.invokevirtual 80, 3) := by decide +kernel
theorem dX1_pass_84 : decode cX1_pass 84 = .ok (.aload_n 0, 1) := by decide +kernel
theorem dX1_pass_85 : decode cX1_pass 85 = .ok (.getfield 12, 3) := by decide +kernel
theorem dX1_pass_88 : decode cX1_pass 88 = .ok (.getfield 83, 3) := by decide +kernel
theorem dX1_pass_91 : decode cX1_pass 91 = .ok (.if_icmp .le 8, 3) := by decide +kernel
theorem dX1_pass_94 : decode cX1_pass 94 = .ok (.aload_n 0, 1) := by decide +kernel
theorem dX1_pass_95 : decode cX1_pass 95 = .ok (.iload_n 1, 1) := by decide +kernel
theorem dX1_pass_96 : decode cX1_pass 96 = .ok (.putfield 65, 3) := by decide +kernel
theorem dX1_pass_99 : decode cX1_pass 99 = .ok (.return_, 1) := by decide +kernel
set_option maxRecDepth 20000 in
theorem ggX1_passBreaths_X2_breathe : GoodIn wsX1_passBreaths wsX2_breathe := goodIn_r _ [8, 9, 10, 11, 12, 7, 13, 14, 15, 16, 17, 18, 19, 20, 21, 22, 23, 40, 41, 42, 43, 44, 45] (by decide +kernel) (by decide +kernel)
set_option maxRecDepth 20000 in
theorem gX1_passBreaths_X2_breathe : GoodIn wsX1_passBreaths (wsV RX1 86 RX2 yX2_breathe wsX2_breathe) := goodIn_app (goodIn_of _ (by decide +kernel)) ggX1_passBreaths_X2_breathe
set_option maxRecDepth 20000 in
theorem ggX1_passBreaths_X2_atNought : GoodIn wsX1_passBreaths wsX2_atNought := goodIn_r _ [27, 9, 28, 29, 30, 7, 31, 32, 40, 41, 42, 43, 44, 45] (by decide +kernel) (by decide +kernel)
set_option maxRecDepth 20000 in
theorem gX1_passBreaths_X2_atNought : GoodIn wsX1_passBreaths (wsV RX1 59 RX2 yX2_atNought wsX2_atNought) := goodIn_app (goodIn_of _ (by decide +kernel)) ggX1_passBreaths_X2_atNought
theorem dX1_passBreaths_0 : decode cX1_passBreaths 0 = .ok (.iconst 0, 1) := by decide +kernel
theorem dX1_passBreaths_1 : decode cX1_passBreaths 1 = .ok (.istore_n 2, 1) := by decide +kernel
theorem dX1_passBreaths_2 : decode cX1_passBreaths 2 = .ok (.iload_n 2, 1) := by decide +kernel
theorem dX1_passBreaths_3 : decode cX1_passBreaths 3 = .ok (.iload_n 1, 1) := by decide +kernel
theorem dX1_passBreaths_4 : decode cX1_passBreaths 4 = .ok (.if_icmp .ge 54, 3) := by decide +kernel
theorem dX1_passBreaths_7 : decode cX1_passBreaths 7 = .ok (.aload_n 0, 1) := by decide +kernel
theorem dX1_passBreaths_8 : decode cX1_passBreaths 8 = .ok (.getfield 12, 3) := by decide +kernel
theorem dX1_passBreaths_11 : decode cX1_passBreaths 11 = .ok (.iconst 1, 1) := by decide +kernel
theorem dX1_passBreaths_12 : decode cX1_passBreaths 12 = .ok (.invokevirtual 86, 3) := by decide +kernel
theorem dX1_passBreaths_15 : decode cX1_passBreaths 15 = .ok (.aload_n 0, 1) := by decide +kernel
theorem dX1_passBreaths_16 : decode cX1_passBreaths 16 = .ok (.dup, 1) := by decide +kernel
theorem dX1_passBreaths_17 : decode cX1_passBreaths 17 = .ok (.getfield 56, 3) := by decide +kernel
theorem dX1_passBreaths_20 : decode cX1_passBreaths 20 = .ok (.iconst 1, 1) := by decide +kernel
theorem dX1_passBreaths_21 : decode cX1_passBreaths 21 = .ok (.iadd, 1) := by decide +kernel
theorem dX1_passBreaths_22 : decode cX1_passBreaths 22 = .ok (.putfield 56, 3) := by decide +kernel
theorem dX1_passBreaths_25 : decode cX1_passBreaths 25 = .ok (.aload_n 0, 1) := by decide +kernel
theorem dX1_passBreaths_26 : decode cX1_passBreaths 26 = .ok (.getfield 62, 3) := by decide +kernel
theorem dX1_passBreaths_29 : decode cX1_passBreaths 29 = .ok (.bipush (-6), 2) := by decide +kernel
theorem dX1_passBreaths_31 : decode cX1_passBreaths 31 = .ok (.if_icmp .ne 21, 3) := by decide +kernel
theorem dX1_passBreaths_34 : decode cX1_passBreaths 34 = .ok (.aload_n 0, 1) := by decide +kernel
theorem dX1_passBreaths_35 : decode cX1_passBreaths 35 = .ok (.getfield 12, 3) := by decide +kernel
theorem dX1_passBreaths_38 : decode cX1_passBreaths 38 = .ok (.invokevirtual 59, 3) := by decide +kernel
theorem dX1_passBreaths_41 : decode cX1_passBreaths 41 = .ok (.ifCond .eq 11, 3) := by decide +kernel
theorem dX1_passBreaths_44 : decode cX1_passBreaths 44 = .ok (.aload_n 0, 1) := by decide +kernel
theorem dX1_passBreaths_45 : decode cX1_passBreaths 45 = .ok (.aload_n 0, 1) := by decide +kernel
theorem dX1_passBreaths_46 : decode cX1_passBreaths 46 = .ok (.getfield 56, 3) := by decide +kernel
theorem dX1_passBreaths_49 : decode cX1_passBreaths 49 = .ok (.putfield 62, 3) := by decide +kernel
theorem dX1_passBreaths_52 : decode cX1_passBreaths 52 = .ok (.iinc 2 1, 3) := by decide +kernel
theorem dX1_passBreaths_55 : decode cX1_passBreaths 55 = .ok (.goto (-53), 3) := by decide +kernel
theorem dX1_passBreaths_58 : decode cX1_passBreaths 58 = .ok (.return_, 1) := by decide +kernel
theorem dX2_init_0 : decode cX2_init 0 = .ok (.aload_n 0, 1) := by decide +kernel
theorem dX2_init_1 : decode cX2_init 1 = .ok (.invokespecial 3, 3) := by decide +kernel
theorem dX2_init_4 : decode cX2_init 4 = .ok (.aload_n 0, 1) := by decide +kernel
theorem dX2_init_5 : decode cX2_init 5 = .ok (.ldc 9, 2) := by decide +kernel
theorem dX2_init_7 : decode cX2_init 7 = .ok (.putfield 10, 3) := by decide +kernel
theorem dX2_init_10 : decode cX2_init 10 = .ok (.aload_n 0, 1) := by decide +kernel
theorem dX2_init_11 : decode cX2_init 11 = .ok (.bipush 9, 2) := by decide +kernel
theorem dX2_init_13 : decode cX2_init 13 = .ok (.putfield 16, 3) := by decide +kernel
theorem dX2_init_16 : decode cX2_init 16 = .ok (.aload_n 0, 1) := by decide +kernel
theorem dX2_init_17 : decode cX2_init 17 = .ok (.bipush 8, 2) := by decide +kernel
theorem dX2_init_19 : decode cX2_init 19 = .ok (.newarray .int, 2) := by decide +kernel
theorem dX2_init_21 : decode cX2_init 21 = .ok (.putfield 19, 3) := by decide +kernel
theorem dX2_init_24 : decode cX2_init 24 = .ok (.aload_n 0, 1) := by decide +kernel
theorem dX2_init_25 : decode cX2_init 25 = .ok (.bipush 8, 2) := by decide +kernel
theorem dX2_init_27 : decode cX2_init 27 = .ok (.newarray .int, 2) := by decide +kernel
theorem dX2_init_29 : decode cX2_init 29 = .ok (.putfield 23, 3) := by decide +kernel
theorem dX2_init_32 : decode cX2_init 32 = .ok (.return_, 1) := by decide +kernel
theorem dX2_copyFrom_0 : decode cX2_copyFrom 0 = .ok (.aload_n 0, 1) := by decide +kernel
theorem dX2_copyFrom_1 : decode cX2_copyFrom 1 = .ok (.aload_n 1, 1) := by decide +kernel
theorem dX2_copyFrom_2 : decode cX2_copyFrom 2 = .ok (.getfield 26, 3) := by decide +kernel
theorem dX2_copyFrom_5 : decode cX2_copyFrom 5 = .ok (.putfield 26, 3) := by decide +kernel
theorem dX2_copyFrom_8 : decode cX2_copyFrom 8 = .ok (.aload_n 0, 1) := by decide +kernel
theorem dX2_copyFrom_9 : decode cX2_copyFrom 9 = .ok (.aload_n 1, 1) := by decide +kernel
theorem dX2_copyFrom_10 : decode cX2_copyFrom 10 = .ok (.getfield 29, 3) := by decide +kernel
theorem dX2_copyFrom_13 : decode cX2_copyFrom 13 = .ok (.putfield 29, 3) := by decide +kernel
theorem dX2_copyFrom_16 : decode cX2_copyFrom 16 = .ok (.aload_n 0, 1) := by decide +kernel
theorem dX2_copyFrom_17 : decode cX2_copyFrom 17 = .ok (.aload_n 1, 1) := by decide +kernel
theorem dX2_copyFrom_18 : decode cX2_copyFrom 18 = .ok (.getfield 10, 3) := by decide +kernel
theorem dX2_copyFrom_21 : decode cX2_copyFrom 21 = .ok (.putfield 10, 3) := by decide +kernel
theorem dX2_copyFrom_24 : decode cX2_copyFrom 24 = .ok (.aload_n 0, 1) := by decide +kernel
theorem dX2_copyFrom_25 : decode cX2_copyFrom 25 = .ok (.aload_n 1, 1) := by decide +kernel
theorem dX2_copyFrom_26 : decode cX2_copyFrom 26 = .ok (.getfield 16, 3) := by decide +kernel
theorem dX2_copyFrom_29 : decode cX2_copyFrom 29 = .ok (.putfield 16, 3) := by decide +kernel
theorem dX2_copyFrom_32 : decode cX2_copyFrom 32 = .ok (.aload_n 1, 1) := by decide +kernel
theorem dX2_copyFrom_33 : decode cX2_copyFrom 33 = .ok (.getfield 19, 3) := by decide +kernel
theorem dX2_copyFrom_36 : decode cX2_copyFrom 36 = .ok (.iconst 0, 1) := by decide +kernel
theorem dX2_copyFrom_37 : decode cX2_copyFrom 37 = .ok (.aload_n 0, 1) := by decide +kernel
theorem dX2_copyFrom_38 : decode cX2_copyFrom 38 = .ok (.getfield 19, 3) := by decide +kernel
theorem dX2_copyFrom_41 : decode cX2_copyFrom 41 = .ok (.iconst 0, 1) := by decide +kernel
theorem dX2_copyFrom_42 : decode cX2_copyFrom 42 = .ok (.bipush 8, 2) := by decide +kernel
theorem dX2_copyFrom_44 : decode cX2_copyFrom 44 = .ok (.invokestatic 32, 3) := by decide +kernel
theorem dX2_copyFrom_47 : decode cX2_copyFrom 47 = .ok (.aload_n 1, 1) := by decide +kernel
theorem dX2_copyFrom_48 : decode cX2_copyFrom 48 = .ok (.getfield 23, 3) := by decide +kernel
theorem dX2_copyFrom_51 : decode cX2_copyFrom 51 = .ok (.iconst 0, 1) := by decide +kernel
theorem dX2_copyFrom_52 : decode cX2_copyFrom 52 = .ok (.aload_n 0, 1) := by decide +kernel
theorem dX2_copyFrom_53 : decode cX2_copyFrom 53 = .ok (.getfield 23, 3) := by decide +kernel
theorem dX2_copyFrom_56 : decode cX2_copyFrom 56 = .ok (.iconst 0, 1) := by decide +kernel
theorem dX2_copyFrom_57 : decode cX2_copyFrom 57 = .ok (.bipush 8, 2) := by decide +kernel
theorem dX2_copyFrom_59 : decode cX2_copyFrom 59 = .ok (.invokestatic 32, 3) := by decide +kernel
theorem dX2_copyFrom_62 : decode cX2_copyFrom 62 = .ok (.return_, 1) := by decide +kernel
theorem dX2_isThere_0 : decode cX2_isThere 0 = .ok (.iload_n 1, 1) := by decide +kernel
theorem dX2_isThere_1 : decode cX2_isThere 1 = .ok (.ifCond .lt 24, 3) := by decide +kernel
theorem dX2_isThere_4 : decode cX2_isThere 4 = .ok (.iload_n 1, 1) := by decide +kernel
theorem dX2_isThere_5 : decode cX2_isThere 5 = .ok (.bipush 8, 2) := by decide +kernel
theorem dX2_isThere_7 : decode cX2_isThere 7 = .ok (.if_icmp .ge 18, 3) := by decide +kernel
theorem dX2_isThere_10 : decode cX2_isThere 10 = .ok (.aload_n 0, 1) := by decide +kernel
theorem dX2_isThere_11 : decode cX2_isThere 11 = .ok (.getfield 26, 3) := by decide +kernel
theorem dX2_isThere_14 : decode cX2_isThere 14 = .ok (.iconst 1, 1) := by decide +kernel
theorem dX2_isThere_15 : decode cX2_isThere 15 = .ok (.iload_n 1, 1) := by decide +kernel
theorem dX2_isThere_16 : decode cX2_isThere 16 = .ok (.ishl, 1) := by decide +kernel
theorem dX2_isThere_17 : decode cX2_isThere 17 = .ok (.iand, 1) := by decide +kernel
theorem dX2_isThere_18 : decode cX2_isThere 18 = .ok (.ifCond .eq 7, 3) := by decide +kernel
theorem dX2_isThere_21 : decode cX2_isThere 21 = .ok (.iconst 1, 1) := by decide +kernel
theorem dX2_isThere_22 : decode cX2_isThere 22 = .ok (.goto 4, 3) := by decide +kernel
theorem dX2_isThere_25 : decode cX2_isThere 25 = .ok (.iconst 0, 1) := by decide +kernel
theorem dX2_isThere_26 : decode cX2_isThere 26 = .ok (.ireturn, 1) := by decide +kernel
theorem dX2_isAwake_0 : decode cX2_isAwake 0 = .ok (.iload_n 1, 1) := by decide +kernel
theorem dX2_isAwake_1 : decode cX2_isAwake 1 = .ok (.ifCond .lt 24, 3) := by decide +kernel
theorem dX2_isAwake_4 : decode cX2_isAwake 4 = .ok (.iload_n 1, 1) := by decide +kernel
theorem dX2_isAwake_5 : decode cX2_isAwake 5 = .ok (.bipush 8, 2) := by decide +kernel
theorem dX2_isAwake_7 : decode cX2_isAwake 7 = .ok (.if_icmp .ge 18, 3) := by decide +kernel
theorem dX2_isAwake_10 : decode cX2_isAwake 10 = .ok (.aload_n 0, 1) := by decide +kernel
theorem dX2_isAwake_11 : decode cX2_isAwake 11 = .ok (.getfield 29, 3) := by decide +kernel
theorem dX2_isAwake_14 : decode cX2_isAwake 14 = .ok (.iconst 1, 1) := by decide +kernel
theorem dX2_isAwake_15 : decode cX2_isAwake 15 = .ok (.iload_n 1, 1) := by decide +kernel
theorem dX2_isAwake_16 : decode cX2_isAwake 16 = .ok (.ishl, 1) := by decide +kernel
theorem dX2_isAwake_17 : decode cX2_isAwake 17 = .ok (.iand, 1) := by decide +kernel
theorem dX2_isAwake_18 : decode cX2_isAwake 18 = .ok (.ifCond .eq 7, 3) := by decide +kernel
theorem dX2_isAwake_21 : decode cX2_isAwake 21 = .ok (.iconst 1, 1) := by decide +kernel
theorem dX2_isAwake_22 : decode cX2_isAwake 22 = .ok (.goto 4, 3) := by decide +kernel
theorem dX2_isAwake_25 : decode cX2_isAwake 25 = .ok (.iconst 0, 1) := by decide +kernel
theorem dX2_isAwake_26 : decode cX2_isAwake 26 = .ok (.ireturn, 1) := by decide +kernel
theorem dX2_settle_0 : decode cX2_settle 0 = .ok (.aload_n 0, 1) := by decide +kernel
theorem dX2_settle_1 : decode cX2_settle 1 = .ok (.dup, 1) := by decide +kernel
theorem dX2_settle_2 : decode cX2_settle 2 = .ok (.getfield 26, 3) := by decide +kernel
theorem dX2_settle_5 : decode cX2_settle 5 = .ok (.iconst 1, 1) := by decide +kernel
theorem dX2_settle_6 : decode cX2_settle 6 = .ok (.iload_n 1, 1) := by decide +kernel
theorem dX2_settle_7 : decode cX2_settle 7 = .ok (.ishl, 1) := by decide +kernel
theorem dX2_settle_8 : decode cX2_settle 8 = .ok (.ior, 1) := by decide +kernel
theorem dX2_settle_9 : decode cX2_settle 9 = .ok (.putfield 26, 3) := by decide +kernel
theorem dX2_settle_12 : decode cX2_settle 12 = .ok (.aload_n 0, 1) := by decide +kernel
theorem dX2_settle_13 : decode cX2_settle 13 = .ok (.dup, 1) := by decide +kernel
theorem dX2_settle_14 : decode cX2_settle 14 = .ok (.getfield 29, 3) := by decide +kernel
theorem dX2_settle_17 : decode cX2_settle 17 = .ok (.iconst 1, 1) := by decide +kernel
theorem dX2_settle_18 : decode cX2_settle 18 = .ok (.iload_n 1, 1) := by decide +kernel
theorem dX2_settle_19 : decode cX2_settle 19 = .ok (.ishl, 1) := by decide +kernel
theorem dX2_settle_20 : decode cX2_settle 20 = .ok (.ior, 1) := by decide +kernel
theorem dX2_settle_21 : decode cX2_settle 21 = .ok (.putfield 29, 3) := by decide +kernel
theorem dX2_settle_24 : decode cX2_settle 24 = .ok (.aload_n 0, 1) := by decide +kernel
theorem dX2_settle_25 : decode cX2_settle 25 = .ok (.getfield 19, 3) := by decide +kernel
theorem dX2_settle_28 : decode cX2_settle 28 = .ok (.iload_n 1, 1) := by decide +kernel
theorem dX2_settle_29 : decode cX2_settle 29 = .ok (.iload_n 2, 1) := by decide +kernel
theorem dX2_settle_30 : decode cX2_settle 30 = .ok (.iastore, 1) := by decide +kernel
theorem dX2_settle_31 : decode cX2_settle 31 = .ok (.aload_n 0, 1) := by decide +kernel
theorem dX2_settle_32 : decode cX2_settle 32 = .ok (.getfield 23, 3) := by decide +kernel
theorem dX2_settle_35 : decode cX2_settle 35 = .ok (.iload_n 1, 1) := by decide +kernel
theorem dX2_settle_36 : decode cX2_settle 36 = .ok (.iload_n 3, 1) := by decide +kernel
theorem dX2_settle_37 : decode cX2_settle 37 = .ok (.iastore, 1) := by decide +kernel
theorem dX2_settle_38 : decode cX2_settle 38 = .ok (.return_, 1) := by decide +kernel
theorem dX2_dismiss_0 : decode cX2_dismiss 0 = .ok (.aload_n 0, 1) := by decide +kernel
theorem dX2_dismiss_1 : decode cX2_dismiss 1 = .ok (.dup, 1) := by decide +kernel
theorem dX2_dismiss_2 : decode cX2_dismiss 2 = .ok (.getfield 26, 3) := by decide +kernel
theorem dX2_dismiss_5 : decode cX2_dismiss 5 = .ok (.iconst 1, 1) := by decide +kernel
theorem dX2_dismiss_6 : decode cX2_dismiss 6 = .ok (.iload_n 1, 1) := by decide +kernel
theorem dX2_dismiss_7 : decode cX2_dismiss 7 = .ok (.ishl, 1) := by decide +kernel
theorem dX2_dismiss_8 : decode cX2_dismiss 8 = .ok (.iconst (-1), 1) := by decide +kernel
theorem dX2_dismiss_9 : decode cX2_dismiss 9 = .ok (.ixor, 1) := by decide +kernel
theorem dX2_dismiss_10 : decode cX2_dismiss 10 = .ok (.iand, 1) := by decide +kernel
theorem dX2_dismiss_11 : decode cX2_dismiss 11 = .ok (.putfield 26, 3) := by decide +kernel
theorem dX2_dismiss_14 : decode cX2_dismiss 14 = .ok (.aload_n 0, 1) := by decide +kernel
theorem dX2_dismiss_15 : decode cX2_dismiss 15 = .ok (.dup, 1) := by decide +kernel
theorem dX2_dismiss_16 : decode cX2_dismiss 16 = .ok (.getfield 29, 3) := by decide +kernel
theorem dX2_dismiss_19 : decode cX2_dismiss 19 = .ok (.iconst 1, 1) := by decide +kernel
theorem dX2_dismiss_20 : decode cX2_dismiss 20 = .ok (.iload_n 1, 1) := by decide +kernel
theorem dX2_dismiss_21 : decode cX2_dismiss 21 = .ok (.ishl, 1) := by decide +kernel
theorem dX2_dismiss_22 : decode cX2_dismiss 22 = .ok (.iconst (-1), 1) := by decide +kernel
theorem dX2_dismiss_23 : decode cX2_dismiss 23 = .ok (.ixor, 1) := by decide +kernel
theorem dX2_dismiss_24 : decode cX2_dismiss 24 = .ok (.iand, 1) := by decide +kernel
theorem dX2_dismiss_25 : decode cX2_dismiss 25 = .ok (.putfield 29, 3) := by decide +kernel
theorem dX2_dismiss_28 : decode cX2_dismiss 28 = .ok (.return_, 1) := by decide +kernel
set_option maxRecDepth 20000 in
theorem ggX2_tell_X2_isAwake : GoodIn wsX2_tell wsX2_isAwake := goodIn_r _ [6, 7, 8, 9, 10, 11, 12, 13] (by decide +kernel) (by decide +kernel)
set_option maxRecDepth 20000 in
theorem gX2_tell_X2_isAwake : GoodIn wsX2_tell (wsV RX2 38 RX2 yX2_isAwake wsX2_isAwake) := goodIn_app (goodIn_of _ (by decide +kernel)) ggX2_tell_X2_isAwake
theorem dX2_tell_0 : decode cX2_tell 0 = .ok (.iload_n 2, 1) := by decide +kernel
theorem dX2_tell_1 : decode cX2_tell 1 = .ok (.ifCond .ne 10, 3) := by decide +kernel
theorem dX2_tell_4 : decode cX2_tell 4 = .ok (.aload_n 0, 1) := by decide +kernel
theorem dX2_tell_5 : decode cX2_tell 5 = .ok (.getfield 19, 3) := by decide +kernel
theorem dX2_tell_8 : decode cX2_tell 8 = .ok (.iload_n 1, 1) := by decide +kernel
theorem dX2_tell_9 : decode cX2_tell 9 = .ok (.iaload, 1) := by decide +kernel
theorem dX2_tell_10 : decode cX2_tell 10 = .ok (.ireturn, 1) := by decide +kernel
theorem dX2_tell_11 : decode cX2_tell 11 = .ok (.aload_n 0, 1) := by decide +kernel
theorem dX2_tell_12 : decode cX2_tell 12 = .ok (.iload_n 1, 1) := by decide +kernel
theorem dX2_tell_13 : decode cX2_tell 13 = .ok (.invokevirtual 38, 3) := by decide +kernel
theorem dX2_tell_16 : decode cX2_tell 16 = .ok (.ifCond .eq 7, 3) := by decide +kernel
theorem dX2_tell_19 : decode cX2_tell 19 = .ok (.iconst 1, 1) := by decide +kernel
theorem dX2_tell_20 : decode cX2_tell 20 = .ok (.goto 4, 3) := by decide +kernel
theorem dX2_tell_23 : decode cX2_tell 23 = .ok (.iconst 0, 1) := by decide +kernel
theorem dX2_tell_24 : decode cX2_tell 24 = .ok (.ireturn, 1) := by decide +kernel
set_option maxRecDepth 20000 in
theorem ggX2_whyNot_X2_isThere : GoodIn wsX2_whyNot wsX2_isThere := goodIn_r _ [6, 7, 23, 24, 25, 26, 27, 28] (by decide +kernel) (by decide +kernel)
set_option maxRecDepth 20000 in
theorem gX2_whyNot_X2_isThere : GoodIn wsX2_whyNot (wsV RX2 42 RX2 yX2_isThere wsX2_isThere) := goodIn_app (goodIn_of _ (by decide +kernel)) ggX2_whyNot_X2_isThere
set_option maxRecDepth 20000 in
theorem ggX2_whyNot_X5_isLetter : GoodIn wsX2_whyNot wsX5_isLetter := goodIn_r _ [11, 12, 13, 14] (by decide +kernel) (by decide +kernel)
set_option maxRecDepth 20000 in
theorem gX2_whyNot_X5_isLetter : GoodIn wsX2_whyNot (va_wsS RX2 45 yX5_isLetter wsX5_isLetter) := goodIn_app (goodIn_of _ (by decide +kernel)) ggX2_whyNot_X5_isLetter
set_option maxRecDepth 20000 in
theorem ggX2_whyNot_X2_whyNoHandOver : GoodIn wsX2_whyNot wsX2_whyNoHandOver := goodIn_r _ [18, 2, 3, 4, 5, 6, 7, 19, 20, 21, 22, 1, 23, 24, 25, 26, 27, 28] (by decide +kernel) (by decide +kernel)
set_option maxRecDepth 20000 in
theorem gX2_whyNot_X2_whyNoHandOver : GoodIn wsX2_whyNot (wsV RX2 50 RX2 yX2_whyNoHandOver wsX2_whyNoHandOver) := goodIn_app (goodIn_of _ (by decide +kernel)) ggX2_whyNot_X2_whyNoHandOver
set_option maxRecDepth 20000 in
theorem ggX2_whyNot_X2_isAwake : GoodIn wsX2_whyNot wsX2_isAwake := goodIn_r _ [22, 1, 23, 24, 25, 26, 27, 28] (by decide +kernel) (by decide +kernel)
set_option maxRecDepth 20000 in
theorem gX2_whyNot_X2_isAwake : GoodIn wsX2_whyNot (wsV RX2 38 RX2 yX2_isAwake wsX2_isAwake) := goodIn_app (goodIn_of _ (by decide +kernel)) ggX2_whyNot_X2_isAwake
theorem dX2_whyNot_0 : decode cX2_whyNot 0 = .ok (.iload_n 1, 1) := by decide +kernel
theorem dX2_whyNot_1 : decode cX2_whyNot 1 = .ok (.iconst (-1), 1) := by decide +kernel
theorem dX2_whyNot_2 : decode cX2_whyNot 2 = .ok (.if_icmp .ne 16, 3) := by decide +kernel
theorem dX2_whyNot_5 : decode cX2_whyNot 5 = .ok (.aload_n 0, 1) := by decide +kernel
theorem dX2_whyNot_6 : decode cX2_whyNot 6 = .ok (.getfield 29, 3) := by decide +kernel
theorem dX2_whyNot_9 : decode cX2_whyNot 9 = .ok (.ifCond .ne 7, 3) := by decide +kernel
theorem dX2_whyNot_12 : decode cX2_whyNot 12 = .ok (.iconst 5, 1) := by decide +kernel
theorem dX2_whyNot_13 : decode cX2_whyNot 13 = .ok (.goto 4, 3) := by decide +kernel
theorem dX2_whyNot_16 : decode cX2_whyNot 16 = .ok (.iconst 0, 1) := by decide +kernel
theorem dX2_whyNot_17 : decode cX2_whyNot 17 = .ok (.ireturn, 1) := by decide +kernel
theorem dX2_whyNot_18 : decode cX2_whyNot 18 = .ok (.aload_n 0, 1) := by decide +kernel
theorem dX2_whyNot_19 : decode cX2_whyNot 19 = .ok (.iload_n 1, 1) := by decide +kernel
theorem dX2_whyNot_20 : decode cX2_whyNot 20 = .ok (.invokevirtual 42, 3) := by decide +kernel
theorem dX2_whyNot_23 : decode cX2_whyNot 23 = .ok (.ifCond .ne 5, 3) := by decide +kernel
theorem dX2_whyNot_26 : decode cX2_whyNot 26 = .ok (.iconst 1, 1) := by decide +kernel
theorem dX2_whyNot_27 : decode cX2_whyNot 27 = .ok (.ireturn, 1) := by decide +kernel
theorem dX2_whyNot_28 : decode cX2_whyNot 28 = .ok (.iload_n 2, 1) := by decide +kernel
theorem dX2_whyNot_29 : decode cX2_whyNot 29 = .ok (.invokestatic 45, 3) := by decide +kernel
theorem dX2_whyNot_32 : decode cX2_whyNot 32 = .ok (.ifCond .eq 13, 3) := by decide +kernel
theorem dX2_whyNot_35 : decode cX2_whyNot 35 = .ok (.aload_n 0, 1) := by decide +kernel
theorem dX2_whyNot_36 : decode cX2_whyNot 36 = .ok (.iload_n 1, 1) := by decide +kernel
theorem dX2_whyNot_37 : decode cX2_whyNot 37 = .ok (.iload_n 2, 1) := by decide +kernel
theorem dX2_whyNot_38 : decode cX2_whyNot 38 = .ok (.bipush 65, 2) := by decide +kernel
theorem dX2_whyNot_40 : decode cX2_whyNot 40 = .ok (.isub, 1) := by decide +kernel
theorem dX2_whyNot_41 : decode cX2_whyNot 41 = .ok (.invokevirtual 50, 3) := by decide +kernel
theorem dX2_whyNot_44 : decode cX2_whyNot 44 = .ok (.ireturn, 1) := by decide +kernel
theorem dX2_whyNot_45 : decode cX2_whyNot 45 = .ok (.iload_n 2, 1) := by decide +kernel
theorem dX2_whyNot_46 : decode cX2_whyNot 46 = .ok (.bipush 119, 2) := by decide +kernel
theorem dX2_whyNot_48 : decode cX2_whyNot 48 = .ok (.if_icmp .ne 17, 3) := by decide +kernel
theorem dX2_whyNot_51 : decode cX2_whyNot 51 = .ok (.aload_n 0, 1) := by decide +kernel
theorem dX2_whyNot_52 : decode cX2_whyNot 52 = .ok (.iload_n 1, 1) := by decide +kernel
theorem dX2_whyNot_53 : decode cX2_whyNot 53 = .ok (.invokevirtual 38, 3) := by decide +kernel
theorem dX2_whyNot_56 : decode cX2_whyNot 56 = .ok (.ifCond .eq 7, 3) := by decide +kernel
theorem dX2_whyNot_59 : decode cX2_whyNot 59 = .ok (.iconst 4, 1) := by decide +kernel
theorem dX2_whyNot_60 : decode cX2_whyNot 60 = .ok (.goto 4, 3) := by decide +kernel
theorem dX2_whyNot_63 : decode cX2_whyNot 63 = .ok (.iconst 0, 1) := by decide +kernel
theorem dX2_whyNot_64 : decode cX2_whyNot 64 = .ok (.ireturn, 1) := by decide +kernel
theorem dX2_whyNot_65 : decode cX2_whyNot 65 = .ok (.aload_n 0, 1) := by decide +kernel
theorem dX2_whyNot_66 : decode cX2_whyNot 66 = .ok (.iload_n 1, 1) := by decide +kernel
theorem dX2_whyNot_67 : decode cX2_whyNot 67 = .ok (.invokevirtual 38, 3) := by decide +kernel
theorem dX2_whyNot_70 : decode cX2_whyNot 70 = .ok (.ifCond .eq 7, 3) := by decide +kernel
theorem dX2_whyNot_73 : decode cX2_whyNot 73 = .ok (.iconst 0, 1) := by decide +kernel
theorem dX2_whyNot_74 : decode cX2_whyNot 74 = .ok (.goto 4, 3) := by decide +kernel
theorem dX2_whyNot_77 : decode cX2_whyNot 77 = .ok (.iconst 3, 1) := by decide +kernel
theorem dX2_whyNot_78 : decode cX2_whyNot 78 = .ok (.ireturn, 1) := by decide +kernel
set_option maxRecDepth 20000 in
theorem ggX2_whyNoHandOver_X2_isThere : GoodIn wsX2_whyNoHandOver wsX2_isThere := goodIn_r _ [5, 6, 12, 13, 14, 15, 16, 17] (by decide +kernel) (by decide +kernel)
set_option maxRecDepth 20000 in
theorem gX2_whyNoHandOver_X2_isThere : GoodIn wsX2_whyNoHandOver (wsV RX2 42 RX2 yX2_isThere wsX2_isThere) := goodIn_app (goodIn_of _ (by decide +kernel)) ggX2_whyNoHandOver_X2_isThere
set_option maxRecDepth 20000 in
theorem ggX2_whyNoHandOver_X2_isAwake : GoodIn wsX2_whyNoHandOver wsX2_isAwake := goodIn_r _ [10, 11, 12, 13, 14, 15, 16, 17] (by decide +kernel) (by decide +kernel)
set_option maxRecDepth 20000 in
theorem gX2_whyNoHandOver_X2_isAwake : GoodIn wsX2_whyNoHandOver (wsV RX2 38 RX2 yX2_isAwake wsX2_isAwake) := goodIn_app (goodIn_of _ (by decide +kernel)) ggX2_whyNoHandOver_X2_isAwake
theorem dX2_whyNoHandOver_0 : decode cX2_whyNoHandOver 0 = .ok (.aload_n 0, 1) := by decide +kernel
theorem dX2_whyNoHandOver_1 : decode cX2_whyNoHandOver 1 = .ok (.iload_n 2, 1) := by decide +kernel
theorem dX2_whyNoHandOver_2 : decode cX2_whyNoHandOver 2 = .ok (.invokevirtual 42, 3) := by decide +kernel
theorem dX2_whyNoHandOver_5 : decode cX2_whyNoHandOver 5 = .ok (.ifCond .ne 5, 3) := by decide +kernel
theorem dX2_whyNoHandOver_8 : decode cX2_whyNoHandOver 8 = .ok (.iconst 1, 1) := by decide +kernel
theorem dX2_whyNoHandOver_9 : decode cX2_whyNoHandOver 9 = .ok (.ireturn, 1) := by decide +kernel
theorem dX2_whyNoHandOver_10 : decode cX2_whyNoHandOver 10 = .ok (.iload_n 1, 1) := by decide +kernel
theorem dX2_whyNoHandOver_11 : decode cX2_whyNoHandOver 11 = .ok (.iload_n 2, 1) := by decide +kernel
theorem dX2_whyNoHandOver_12 : decode cX2_whyNoHandOver 12 = .ok (.if_icmp .ne 5, 3) := by decide +kernel
theorem dX2_whyNoHandOver_15 : decode cX2_whyNoHandOver 15 = .ok (.iconst 2, 1) := by decide +kernel
theorem dX2_whyNoHandOver_16 : decode cX2_whyNoHandOver 16 = .ok (.ireturn, 1) := by decide +kernel
theorem dX2_whyNoHandOver_17 : decode cX2_whyNoHandOver 17 = .ok (.aload_n 0, 1) := by decide +kernel
theorem dX2_whyNoHandOver_18 : decode cX2_whyNoHandOver 18 = .ok (.iload_n 1, 1) := by decide +kernel
theorem dX2_whyNoHandOver_19 : decode cX2_whyNoHandOver 19 = .ok (.invokevirtual 38, 3) := by decide +kernel
theorem dX2_whyNoHandOver_22 : decode cX2_whyNoHandOver 22 = .ok (.ifCond .eq 15, 3) := by decide +kernel
theorem dX2_whyNoHandOver_25 : decode cX2_whyNoHandOver 25 = .ok (.aload_n 0, 1) := by decide +kernel
theorem dX2_whyNoHandOver_26 : decode cX2_whyNoHandOver 26 = .ok (.iload_n 2, 1) := by decide +kernel
theorem dX2_whyNoHandOver_27 : decode cX2_whyNoHandOver 27 = .ok (.invokevirtual 38, 3) := by decide +kernel
theorem dX2_whyNoHandOver_30 : decode cX2_whyNoHandOver 30 = .ok (.ifCond .eq 7, 3) := by decide +kernel
theorem dX2_whyNoHandOver_33 : decode cX2_whyNoHandOver 33 = .ok (.iconst 0, 1) := by decide +kernel
theorem dX2_whyNoHandOver_34 : decode cX2_whyNoHandOver 34 = .ok (.goto 4, 3) := by decide +kernel
theorem dX2_whyNoHandOver_37 : decode cX2_whyNoHandOver 37 = .ok (.iconst 3, 1) := by decide +kernel
theorem dX2_whyNoHandOver_38 : decode cX2_whyNoHandOver 38 = .ok (.ireturn, 1) := by decide +kernel
set_option maxRecDepth 20000 in
theorem ggX2_act_X2_breathe : GoodIn wsX2_act wsX2_breathe := goodIn_r _ [12, 2, 13, 14, 15, 11, 16, 1, 17, 18, 19, 20, 21, 22, 23, 6, 24, 49, 50, 51, 52, 53, 54] (by decide +kernel) (by decide +kernel)
set_option maxRecDepth 20000 in
theorem gX2_act_X2_breathe : GoodIn wsX2_act (wsV RX2 54 RX2 yX2_breathe wsX2_breathe) := goodIn_app (goodIn_of _ (by decide +kernel)) ggX2_act_X2_breathe
set_option maxRecDepth 20000 in
theorem ggX2_act_X2_ring : GoodIn wsX2_act wsX2_ring := goodIn_r _ [28, 2, 3, 4, 5, 6, 7, 13, 14, 15, 11, 16, 1, 49, 50, 51, 52, 53, 54] (by decide +kernel) (by decide +kernel)
set_option maxRecDepth 20000 in
theorem gX2_act_X2_ring : GoodIn wsX2_act (wsV RX2 58 RX2 yX2_ring wsX2_ring) := goodIn_app (goodIn_of _ (by decide +kernel)) ggX2_act_X2_ring
set_option maxRecDepth 20000 in
theorem ggX2_act_X2_sting : GoodIn wsX2_act wsX2_sting := goodIn_r _ [32, 2, 3, 33, 34, 35, 11, 36, 13, 14, 15, 16, 1, 49, 50, 51, 52, 53, 54] (by decide +kernel) (by decide +kernel)
set_option maxRecDepth 20000 in
theorem gX2_act_X2_sting : GoodIn wsX2_act (wsV RX2 61 RX2 yX2_sting wsX2_sting) := goodIn_app (goodIn_of _ (by decide +kernel)) ggX2_act_X2_sting
set_option maxRecDepth 20000 in
theorem ggX2_act_X2_commonestCount : GoodIn wsX2_act wsX2_commonestCount := goodIn_r _ [40, 2, 13, 14, 15, 11, 16, 1, 41, 42, 43, 44, 49, 50, 51, 52, 53, 54] (by decide +kernel) (by decide +kernel)
set_option maxRecDepth 20000 in
theorem gX2_act_X2_commonestCount : GoodIn wsX2_act (wsV RX2 69 RX2 yX2_commonestCount wsX2_commonestCount) := goodIn_app (goodIn_of _ (by decide +kernel)) ggX2_act_X2_commonestCount
set_option maxRecDepth 20000 in
theorem ggX2_act_X2_handOver : GoodIn wsX2_act wsX2_handOver := goodIn_r _ [48, 1, 2, 49, 50, 51, 52, 53, 54] (by decide +kernel) (by decide +kernel)
set_option maxRecDepth 20000 in
theorem gX2_act_X2_handOver : GoodIn wsX2_act (wsV RX2 73 RX2 yX2_handOver wsX2_handOver) := goodIn_app (goodIn_of _ (by decide +kernel)) ggX2_act_X2_handOver
theorem dX2_act_0 : decode cX2_act 0 = .ok (.iload_n 2, 1) := by decide +kernel
theorem dX2_act_1 : decode cX2_act 1 = .ok (.lookupswitch 150 #[(33, 84), (42, 91), (46, 67), (58, 75), (101, 137), (107, 113), (119, 98)], 67) := by decide +kernel
theorem dX2_act_68 : decode cX2_act 68 = .ok (.aload_n 0, 1) := by decide +kernel
theorem dX2_act_69 : decode cX2_act 69 = .ok (.iconst 1, 1) := by decide +kernel
theorem dX2_act_70 : decode cX2_act 70 = .ok (.invokevirtual 54, 3) := by decide +kernel
theorem dX2_act_73 : decode cX2_act 73 = .ok (.goto 87, 3) := by decide +kernel
theorem dX2_act_76 : decode cX2_act 76 = .ok (.aload_n 0, 1) := by decide +kernel
theorem dX2_act_77 : decode cX2_act 77 = .ok (.bipush 10, 2) := by decide +kernel
theorem dX2_act_79 : decode cX2_act 79 = .ok (.invokevirtual 54, 3) := by decide +kernel
theorem dX2_act_82 : decode cX2_act 82 = .ok (.goto 78, 3) := by decide +kernel
theorem dX2_act_85 : decode cX2_act 85 = .ok (.aload_n 0, 1) := by decide +kernel
theorem dX2_act_86 : decode cX2_act 86 = .ok (.invokevirtual 58, 3) := by decide +kernel
theorem dX2_act_89 : decode cX2_act 89 = .ok (.goto 71, 3) := by decide +kernel
theorem dX2_act_92 : decode cX2_act 92 = .ok (.aload_n 0, 1) := by decide +kernel
theorem dX2_act_93 : decode cX2_act 93 = .ok (.invokevirtual 61, 3) := by decide +kernel
theorem dX2_act_96 : decode cX2_act 96 = .ok (.goto 64, 3) := by decide +kernel
theorem dX2_act_99 : decode cX2_act 99 = .ok (.aload_n 0, 1) := by decide +kernel
theorem dX2_act_100 : decode cX2_act 100 = .ok (.dup, 1) := by decide +kernel
theorem dX2_act_101 : decode cX2_act 101 = .ok (.getfield 29, 3) := by decide +kernel
theorem dX2_act_104 : decode cX2_act 104 = .ok (.iconst 1, 1) := by decide +kernel
theorem dX2_act_105 : decode cX2_act 105 = .ok (.iload_n 1, 1) := by decide +kernel
theorem dX2_act_106 : decode cX2_act 106 = .ok (.ishl, 1) := by decide +kernel
theorem dX2_act_107 : decode cX2_act 107 = .ok (.ior, 1) := by decide +kernel
theorem dX2_act_108 : decode cX2_act 108 = .ok (.putfield 29, 3) := by decide +kernel
theorem dX2_act_111 : decode cX2_act 111 = .ok (.goto 49, 3) := by decide +kernel
theorem dX2_act_114 : decode cX2_act 114 = .ok (.aload_n 0, 1) := by decide +kernel
theorem dX2_act_115 : decode cX2_act 115 = .ok (.getfield 19, 3) := by decide +kernel
theorem dX2_act_118 : decode cX2_act 118 = .ok (.iload_n 1, 1) := by decide +kernel
theorem dX2_act_119 : decode cX2_act 119 = .ok (.aload_n 0, 1) := by decide +kernel
theorem dX2_act_120 : decode cX2_act 120 = .ok (.getfield 10, 3) := by decide +kernel
theorem dX2_act_123 : decode cX2_act 123 = .ok (.aload_n 0, 1) := by decide +kernel
theorem dX2_act_124 : decode cX2_act 124 = .ok (.getfield 19, 3) := by decide +kernel
theorem dX2_act_127 : decode cX2_act 127 = .ok (.iload_n 1, 1) := by decide +kernel
theorem dX2_act_128 : decode cX2_act 128 = .ok (.iaload, 1) := by decide +kernel
theorem dX2_act_129 : decode cX2_act 129 = .ok (.iconst 3, 1) := by decide +kernel
theorem dX2_act_130 : decode cX2_act 130 = .ok (.iadd, 1) := by decide +kernel
theorem dX2_act_131 : decode cX2_act 131 = .ok (.invokestatic 64, 3) := by decide +kernel
theorem dX2_act_134 : decode cX2_act 134 = .ok (.iastore, 1) := by decide +kernel
theorem dX2_act_135 : decode cX2_act 135 = .ok (.goto 25, 3) := by decide +kernel
theorem dX2_act_138 : decode cX2_act 138 = .ok (.aload_n 0, 1) := by decide +kernel
theorem dX2_act_139 : decode cX2_act 139 = .ok (.getfield 19, 3) := by decide +kernel
theorem dX2_act_142 : decode cX2_act 142 = .ok (.iload_n 1, 1) := by decide +kernel
theorem dX2_act_143 : decode cX2_act 143 = .ok (.aload_n 0, 1) := by decide +kernel
theorem dX2_act_144 : decode cX2_act 144 = .ok (.invokevirtual 69, 3) := by decide +kernel
theorem dX2_act_147 : decode cX2_act 147 = .ok (.iastore, 1) := by decide +kernel
theorem dX2_act_148 : decode cX2_act 148 = .ok (.goto 12, 3) := by decide +kernel
theorem dX2_act_151 : decode cX2_act 151 = .ok (.aload_n 0, 1) := by decide +kernel
theorem dX2_act_152 : decode cX2_act 152 = .ok (.iload_n 1, 1) := by decide +kernel
theorem dX2_act_153 : decode cX2_act 153 = .ok (.iload_n 2, 1) := by decide +kernel
theorem dX2_act_154 : decode cX2_act 154 = .ok (.bipush 65, 2) := by decide +kernel
theorem dX2_act_156 : decode cX2_act 156 = .ok (.isub, 1) := by decide +kernel
theorem dX2_act_157 : decode cX2_act 157 = .ok (.invokevirtual 73, 3) := by decide +kernel
theorem dX2_act_160 : decode cX2_act 160 = .ok (.return_, 1) := by decide +kernel
set_option maxRecDepth 20000 in
theorem ggX2_breathe_X2_isAwake : GoodIn wsX2_breathe wsX2_isAwake := goodIn_r _ [6, 7, 17, 18, 19, 20, 21, 22] (by decide +kernel) (by decide +kernel)
set_option maxRecDepth 20000 in
theorem gX2_breathe_X2_isAwake : GoodIn wsX2_breathe (wsV RX2 38 RX2 yX2_isAwake wsX2_isAwake) := goodIn_app (goodIn_of _ (by decide +kernel)) ggX2_breathe_X2_isAwake
set_option maxRecDepth 20000 in
theorem ggX2_breathe_X2_countBehind : GoodIn wsX2_breathe wsX2_countBehind := goodIn_r _ [11, 1, 12, 13, 14, 15, 16, 17, 18, 19, 20, 21, 22] (by decide +kernel) (by decide +kernel)
set_option maxRecDepth 20000 in
theorem gX2_breathe_X2_countBehind : GoodIn wsX2_breathe (wsV RX2 77 RX2 yX2_countBehind wsX2_countBehind) := goodIn_app (goodIn_of _ (by decide +kernel)) ggX2_breathe_X2_countBehind
theorem dX2_breathe_0 : decode cX2_breathe 0 = .ok (.iconst 0, 1) := by decide +kernel
theorem dX2_breathe_1 : decode cX2_breathe 1 = .ok (.istore_n 2, 1) := by decide +kernel
theorem dX2_breathe_2 : decode cX2_breathe 2 = .ok (.iload_n 2, 1) := by decide +kernel
theorem dX2_breathe_3 : decode cX2_breathe 3 = .ok (.bipush 8, 2) := by decide +kernel
theorem dX2_breathe_5 : decode cX2_breathe 5 = .ok (.if_icmp .ge 30, 3) := by decide +kernel
theorem dX2_breathe_8 : decode cX2_breathe 8 = .ok (.aload_n 0, 1) := by decide +kernel
theorem dX2_breathe_9 : decode cX2_breathe 9 = .ok (.iload_n 2, 1) := by decide +kernel
theorem dX2_breathe_10 : decode cX2_breathe 10 = .ok (.invokevirtual 38, 3) := by decide +kernel
theorem dX2_breathe_13 : decode cX2_breathe 13 = .ok (.ifCond .eq 16, 3) := by decide +kernel
theorem dX2_breathe_16 : decode cX2_breathe 16 = .ok (.aload_n 0, 1) := by decide +kernel
theorem dX2_breathe_17 : decode cX2_breathe 17 = .ok (.getfield 19, 3) := by decide +kernel
theorem dX2_breathe_20 : decode cX2_breathe 20 = .ok (.iload_n 2, 1) := by decide +kernel
theorem dX2_breathe_21 : decode cX2_breathe 21 = .ok (.aload_n 0, 1) := by decide +kernel
theorem dX2_breathe_22 : decode cX2_breathe 22 = .ok (.iload_n 2, 1) := by decide +kernel
theorem dX2_breathe_23 : decode cX2_breathe 23 = .ok (.iconst 0, 1) := by decide +kernel
theorem dX2_breathe_24 : decode cX2_breathe 24 = .ok (.iload_n 1, 1) := by decide +kernel
theorem dX2_breathe_25 : decode cX2_breathe 25 = .ok (.invokevirtual 77, 3) := by decide +kernel
theorem dX2_breathe_28 : decode cX2_breathe 28 = .ok (.iastore, 1) := by decide +kernel
theorem dX2_breathe_29 : decode cX2_breathe 29 = .ok (.iinc 2 1, 3) := by decide +kernel
theorem dX2_breathe_32 : decode cX2_breathe 32 = .ok (.goto (-30), 3) := by decide +kernel
theorem dX2_breathe_35 : decode cX2_breathe 35 = .ok (.return_, 1) := by decide +kernel
set_option maxRecDepth 20000 in
theorem ggX2_ring_X2_isAwake : GoodIn wsX2_ring wsX2_isAwake := goodIn_r _ [11, 12, 13, 14, 15, 16, 17, 18] (by decide +kernel) (by decide +kernel)
set_option maxRecDepth 20000 in
theorem gX2_ring_X2_isAwake : GoodIn wsX2_ring (wsV RX2 38 RX2 yX2_isAwake wsX2_isAwake) := goodIn_app (goodIn_of _ (by decide +kernel)) ggX2_ring_X2_isAwake
theorem dX2_ring_0 : decode cX2_ring 0 = .ok (.iconst 0, 1) := by decide +kernel
theorem dX2_ring_1 : decode cX2_ring 1 = .ok (.istore_n 1, 1) := by decide +kernel
theorem dX2_ring_2 : decode cX2_ring 2 = .ok (.iload_n 1, 1) := by decide +kernel
theorem dX2_ring_3 : decode cX2_ring 3 = .ok (.bipush 8, 2) := by decide +kernel
theorem dX2_ring_5 : decode cX2_ring 5 = .ok (.if_icmp .ge 38, 3) := by decide +kernel
theorem dX2_ring_8 : decode cX2_ring 8 = .ok (.aload_n 0, 1) := by decide +kernel
theorem dX2_ring_9 : decode cX2_ring 9 = .ok (.iload_n 1, 1) := by decide +kernel
theorem dX2_ring_10 : decode cX2_ring 10 = .ok (.invokevirtual 38, 3) := by decide +kernel
theorem dX2_ring_13 : decode cX2_ring 13 = .ok (.ifCond .eq 24, 3) := by decide +kernel
theorem dX2_ring_16 : decode cX2_ring 16 = .ok (.aload_n 0, 1) := by decide +kernel
theorem dX2_ring_17 : decode cX2_ring 17 = .ok (.getfield 19, 3) := by decide +kernel
theorem dX2_ring_20 : decode cX2_ring 20 = .ok (.iload_n 1, 1) := by decide +kernel
theorem dX2_ring_21 : decode cX2_ring 21 = .ok (.aload_n 0, 1) := by decide +kernel
theorem dX2_ring_22 : decode cX2_ring 22 = .ok (.getfield 10, 3) := by decide +kernel
theorem dX2_ring_25 : decode cX2_ring 25 = .ok (.aload_n 0, 1) := by decide +kernel
theorem dX2_ring_26 : decode cX2_ring 26 = .ok (.getfield 19, 3) := by decide +kernel
theorem dX2_ring_29 : decode cX2_ring 29 = .ok (.iload_n 1, 1) := by decide +kernel
theorem dX2_ring_30 : decode cX2_ring 30 = .ok (.iaload, 1) := by decide +kernel
theorem dX2_ring_31 : decode cX2_ring 31 = .ok (.iconst 1, 1) := by decide +kernel
theorem dX2_ring_32 : decode cX2_ring 32 = .ok (.iadd, 1) := by decide +kernel
theorem dX2_ring_33 : decode cX2_ring 33 = .ok (.invokestatic 64, 3) := by decide +kernel
theorem dX2_ring_36 : decode cX2_ring 36 = .ok (.iastore, 1) := by decide +kernel
theorem dX2_ring_37 : decode cX2_ring 37 = .ok (.iinc 1 1, 3) := by decide +kernel
theorem dX2_ring_40 : decode cX2_ring 40 = .ok (.goto (-38), 3) := by decide +kernel
theorem dX2_ring_43 : decode cX2_ring 43 = .ok (.return_, 1) := by decide +kernel
set_option maxRecDepth 20000 in
theorem ggX2_sting_X2_foremost : GoodIn wsX2_sting wsX2_foremost := goodIn_r _ [7, 1, 8, 9, 10, 6, 11, 12, 13, 14, 15, 16, 17, 18] (by decide +kernel) (by decide +kernel)
set_option maxRecDepth 20000 in
theorem gX2_sting_X2_foremost : GoodIn wsX2_sting (wsV RX2 81 RX2 yX2_foremost wsX2_foremost) := goodIn_app (goodIn_of _ (by decide +kernel)) ggX2_sting_X2_foremost
theorem dX2_sting_0 : decode cX2_sting 0 = .ok (.aload_n 0, 1) := by decide +kernel
theorem dX2_sting_1 : decode cX2_sting 1 = .ok (.invokevirtual 81, 3) := by decide +kernel
theorem dX2_sting_4 : decode cX2_sting 4 = .ok (.istore_n 1, 1) := by decide +kernel
theorem dX2_sting_5 : decode cX2_sting 5 = .ok (.iload_n 1, 1) := by decide +kernel
theorem dX2_sting_6 : decode cX2_sting 6 = .ok (.iconst (-1), 1) := by decide +kernel
theorem dX2_sting_7 : decode cX2_sting 7 = .ok (.if_icmp .eq 13, 3) := by decide +kernel
theorem dX2_sting_10 : decode cX2_sting 10 = .ok (.aload_n 0, 1) := by decide +kernel
theorem dX2_sting_11 : decode cX2_sting 11 = .ok (.getfield 19, 3) := by decide +kernel
theorem dX2_sting_14 : decode cX2_sting 14 = .ok (.iload_n 1, 1) := by decide +kernel
theorem dX2_sting_15 : decode cX2_sting 15 = .ok (.aload_n 0, 1) := by decide +kernel
theorem dX2_sting_16 : decode cX2_sting 16 = .ok (.getfield 10, 3) := by decide +kernel
theorem dX2_sting_19 : decode cX2_sting 19 = .ok (.iastore, 1) := by decide +kernel
theorem dX2_sting_20 : decode cX2_sting 20 = .ok (.return_, 1) := by decide +kernel
theorem dX2_handOver_0 : decode cX2_handOver 0 = .ok (.aload_n 0, 1) := by decide +kernel
theorem dX2_handOver_1 : decode cX2_handOver 1 = .ok (.dup, 1) := by decide +kernel
theorem dX2_handOver_2 : decode cX2_handOver 2 = .ok (.getfield 29, 3) := by decide +kernel
theorem dX2_handOver_5 : decode cX2_handOver 5 = .ok (.iconst 1, 1) := by decide +kernel
theorem dX2_handOver_6 : decode cX2_handOver 6 = .ok (.iload_n 1, 1) := by decide +kernel
theorem dX2_handOver_7 : decode cX2_handOver 7 = .ok (.ishl, 1) := by decide +kernel
theorem dX2_handOver_8 : decode cX2_handOver 8 = .ok (.iconst (-1), 1) := by decide +kernel
theorem dX2_handOver_9 : decode cX2_handOver 9 = .ok (.ixor, 1) := by decide +kernel
theorem dX2_handOver_10 : decode cX2_handOver 10 = .ok (.iand, 1) := by decide +kernel
theorem dX2_handOver_11 : decode cX2_handOver 11 = .ok (.putfield 29, 3) := by decide +kernel
theorem dX2_handOver_14 : decode cX2_handOver 14 = .ok (.aload_n 0, 1) := by decide +kernel
theorem dX2_handOver_15 : decode cX2_handOver 15 = .ok (.getfield 19, 3) := by decide +kernel
theorem dX2_handOver_18 : decode cX2_handOver 18 = .ok (.iload_n 2, 1) := by decide +kernel
theorem dX2_handOver_19 : decode cX2_handOver 19 = .ok (.aload_n 0, 1) := by decide +kernel
theorem dX2_handOver_20 : decode cX2_handOver 20 = .ok (.getfield 19, 3) := by decide +kernel
theorem dX2_handOver_23 : decode cX2_handOver 23 = .ok (.iload_n 1, 1) := by decide +kernel
theorem dX2_handOver_24 : decode cX2_handOver 24 = .ok (.iaload, 1) := by decide +kernel
theorem dX2_handOver_25 : decode cX2_handOver 25 = .ok (.aload_n 0, 1) := by decide +kernel
theorem dX2_handOver_26 : decode cX2_handOver 26 = .ok (.getfield 19, 3) := by decide +kernel
theorem dX2_handOver_29 : decode cX2_handOver 29 = .ok (.iload_n 2, 1) := by decide +kernel
theorem dX2_handOver_30 : decode cX2_handOver 30 = .ok (.iaload, 1) := by decide +kernel
theorem dX2_handOver_31 : decode cX2_handOver 31 = .ok (.iadd, 1) := by decide +kernel
theorem dX2_handOver_32 : decode cX2_handOver 32 = .ok (.iconst 2, 1) := by decide +kernel
theorem dX2_handOver_33 : decode cX2_handOver 33 = .ok (.idiv, 1) := by decide +kernel
theorem dX2_handOver_34 : decode cX2_handOver 34 = .ok (.iastore, 1) := by decide +kernel
theorem dX2_handOver_35 : decode cX2_handOver 35 = .ok (.return_, 1) := by decide +kernel
theorem dX2_countBehind_0 : decode cX2_countBehind 0 = .ok (.iconst 0, 1) := by decide +kernel
theorem dX2_countBehind_1 : decode cX2_countBehind 1 = .ok (.aload_n 0, 1) := by decide +kernel
theorem dX2_countBehind_2 : decode cX2_countBehind 2 = .ok (.getfield 19, 3) := by decide +kernel
theorem dX2_countBehind_5 : decode cX2_countBehind 5 = .ok (.iload_n 1, 1) := by decide +kernel
theorem dX2_countBehind_6 : decode cX2_countBehind 6 = .ok (.iaload, 1) := by decide +kernel
theorem dX2_countBehind_7 : decode cX2_countBehind 7 = .ok (.iload_n 2, 1) := by decide +kernel
theorem dX2_countBehind_8 : decode cX2_countBehind 8 = .ok (.isub, 1) := by decide +kernel
theorem dX2_countBehind_9 : decode cX2_countBehind 9 = .ok (.iload_n 3, 1) := by decide +kernel
theorem dX2_countBehind_10 : decode cX2_countBehind 10 = .ok (.aload_n 0, 1) := by decide +kernel
theorem dX2_countBehind_11 : decode cX2_countBehind 11 = .ok (.getfield 23, 3) := by decide +kernel
theorem dX2_countBehind_14 : decode cX2_countBehind 14 = .ok (.iload_n 1, 1) := by decide +kernel
theorem dX2_countBehind_15 : decode cX2_countBehind 15 = .ok (.iaload, 1) := by decide +kernel
theorem dX2_countBehind_16 : decode cX2_countBehind 16 = .ok (.imul, 1) := by decide +kernel
theorem dX2_countBehind_17 : decode cX2_countBehind 17 = .ok (.isub, 1) := by decide +kernel
theorem dX2_countBehind_18 : decode cX2_countBehind 18 = .ok (.invokestatic 84, 3) := by decide +kernel
theorem dX2_countBehind_21 : decode cX2_countBehind 21 = .ok (.ireturn, 1) := by decide +kernel
set_option maxRecDepth 20000 in
theorem ggX2_foremost_X2_isAwake : GoodIn wsX2_foremost wsX2_isAwake := goodIn_r _ [6, 7, 8, 9, 10, 11, 12, 13] (by decide +kernel) (by decide +kernel)
set_option maxRecDepth 20000 in
theorem gX2_foremost_X2_isAwake : GoodIn wsX2_foremost (wsV RX2 38 RX2 yX2_isAwake wsX2_isAwake) := goodIn_app (goodIn_of _ (by decide +kernel)) ggX2_foremost_X2_isAwake
theorem dX2_foremost_0 : decode cX2_foremost 0 = .ok (.iconst (-1), 1) := by decide +kernel
theorem dX2_foremost_1 : decode cX2_foremost 1 = .ok (.istore_n 1, 1) := by decide +kernel
theorem dX2_foremost_2 : decode cX2_foremost 2 = .ok (.iconst 0, 1) := by decide +kernel
theorem dX2_foremost_3 : decode cX2_foremost 3 = .ok (.istore_n 2, 1) := by decide +kernel
theorem dX2_foremost_4 : decode cX2_foremost 4 = .ok (.iload_n 2, 1) := by decide +kernel
theorem dX2_foremost_5 : decode cX2_foremost 5 = .ok (.bipush 8, 2) := by decide +kernel
theorem dX2_foremost_7 : decode cX2_foremost 7 = .ok (.if_icmp .ge 39, 3) := by decide +kernel
theorem dX2_foremost_10 : decode cX2_foremost 10 = .ok (.aload_n 0, 1) := by decide +kernel
theorem dX2_foremost_11 : decode cX2_foremost 11 = .ok (.iload_n 2, 1) := by decide +kernel
theorem dX2_foremost_12 : decode cX2_foremost 12 = .ok (.invokevirtual 38, 3) := by decide +kernel
theorem dX2_foremost_15 : decode cX2_foremost 15 = .ok (.ifCond .eq 25, 3) := by decide +kernel
theorem dX2_foremost_18 : decode cX2_foremost 18 = .ok (.iload_n 1, 1) := by decide +kernel
theorem dX2_foremost_19 : decode cX2_foremost 19 = .ok (.iconst (-1), 1) := by decide +kernel
theorem dX2_foremost_20 : decode cX2_foremost 20 = .ok (.if_icmp .eq 18, 3) := by decide +kernel
theorem dX2_foremost_23 : decode cX2_foremost 23 = .ok (.aload_n 0, 1) := by decide +kernel
theorem dX2_foremost_24 : decode cX2_foremost 24 = .ok (.getfield 19, 3) := by decide +kernel
theorem dX2_foremost_27 : decode cX2_foremost 27 = .ok (.iload_n 2, 1) := by decide +kernel
theorem dX2_foremost_28 : decode cX2_foremost 28 = .ok (.iaload, 1) := by decide +kernel
theorem dX2_foremost_29 : decode cX2_foremost 29 = .ok (.aload_n 0, 1) := by decide +kernel
theorem dX2_foremost_30 : decode cX2_foremost 30 = .ok (.getfield 19, 3) := by decide +kernel
theorem dX2_foremost_33 : decode cX2_foremost 33 = .ok (.iload_n 1, 1) := by decide +kernel
theorem dX2_foremost_34 : decode cX2_foremost 34 = .ok (.iaload, 1) := by decide +kernel
theorem dX2_foremost_35 : decode cX2_foremost 35 = .ok (.if_icmp .ge 5, 3) := by decide +kernel
theorem dX2_foremost_38 : decode cX2_foremost 38 = .ok (.iload_n 2, 1) := by decide +kernel
theorem dX2_foremost_39 : decode cX2_foremost 39 = .ok (.istore_n 1, 1) := by decide +kernel
theorem dX2_foremost_40 : decode cX2_foremost 40 = .ok (.iinc 2 1, 3) := by decide +kernel
theorem dX2_foremost_43 : decode cX2_foremost 43 = .ok (.goto (-39), 3) := by decide +kernel
theorem dX2_foremost_46 : decode cX2_foremost 46 = .ok (.iload_n 1, 1) := by decide +kernel
theorem dX2_foremost_47 : decode cX2_foremost 47 = .ok (.ireturn, 1) := by decide +kernel
theorem dX2_greatestCount_0 : decode cX2_greatestCount 0 = .ok (.iconst 0, 1) := by decide +kernel
theorem dX2_greatestCount_1 : decode cX2_greatestCount 1 = .ok (.istore_n 2, 1) := by decide +kernel
theorem dX2_greatestCount_2 : decode cX2_greatestCount 2 = .ok (.iconst 0, 1) := by decide +kernel
theorem dX2_greatestCount_3 : decode cX2_greatestCount 3 = .ok (.istore_n 3, 1) := by decide +kernel
theorem dX2_greatestCount_4 : decode cX2_greatestCount 4 = .ok (.iload_n 3, 1) := by decide +kernel
theorem dX2_greatestCount_5 : decode cX2_greatestCount 5 = .ok (.bipush 8, 2) := by decide +kernel
theorem dX2_greatestCount_7 : decode cX2_greatestCount 7 = .ok (.if_icmp .ge 28, 3) := by decide +kernel
theorem dX2_greatestCount_10 : decode cX2_greatestCount 10 = .ok (.iload_n 1, 1) := by decide +kernel
theorem dX2_greatestCount_11 : decode cX2_greatestCount 11 = .ok (.iconst 1, 1) := by decide +kernel
theorem dX2_greatestCount_12 : decode cX2_greatestCount 12 = .ok (.iload_n 3, 1) := by decide +kernel
theorem dX2_greatestCount_13 : decode cX2_greatestCount 13 = .ok (.ishl, 1) := by decide +kernel
theorem dX2_greatestCount_14 : decode cX2_greatestCount 14 = .ok (.iand, 1) := by decide +kernel
theorem dX2_greatestCount_15 : decode cX2_greatestCount 15 = .ok (.ifCond .eq 14, 3) := by decide +kernel
theorem dX2_greatestCount_18 : decode cX2_greatestCount 18 = .ok (.iload_n 2, 1) := by decide +kernel
theorem dX2_greatestCount_19 : decode cX2_greatestCount 19 = .ok (.aload_n 0, 1) := by decide +kernel
theorem dX2_greatestCount_20 : decode cX2_greatestCount 20 = .ok (.getfield 19, 3) := by decide +kernel
theorem dX2_greatestCount_23 : decode cX2_greatestCount 23 = .ok (.iload_n 3, 1) := by decide +kernel
theorem dX2_greatestCount_24 : decode cX2_greatestCount 24 = .ok (.iaload, 1) := by decide +kernel
theorem dX2_greatestCount_25 : decode cX2_greatestCount 25 = .ok (.invokestatic 84, 3) := by decide +kernel
theorem dX2_greatestCount_28 : decode cX2_greatestCount 28 = .ok (.istore_n 2, 1) := by decide +kernel
theorem dX2_greatestCount_29 : decode cX2_greatestCount 29 = .ok (.iinc 3 1, 3) := by decide +kernel
theorem dX2_greatestCount_32 : decode cX2_greatestCount 32 = .ok (.goto (-28), 3) := by decide +kernel
theorem dX2_greatestCount_35 : decode cX2_greatestCount 35 = .ok (.iload_n 2, 1) := by decide +kernel
theorem dX2_greatestCount_36 : decode cX2_greatestCount 36 = .ok (.ireturn, 1) := by decide +kernel
set_option maxRecDepth 20000 in
theorem ggX2_spread_X2_foremost : GoodIn wsX2_spread wsX2_foremost := goodIn_r _ [7, 2, 8, 9, 10, 6, 11, 1, 20, 21, 22, 23, 24, 25] (by decide +kernel) (by decide +kernel)
set_option maxRecDepth 20000 in
theorem gX2_spread_X2_foremost : GoodIn wsX2_spread (wsV RX2 81 RX2 yX2_foremost wsX2_foremost) := goodIn_app (goodIn_of _ (by decide +kernel)) ggX2_spread_X2_foremost
set_option maxRecDepth 20000 in
theorem ggX2_spread_X2_greatestCount : GoodIn wsX2_spread wsX2_greatestCount := goodIn_r _ [15, 2, 16, 17, 18, 19, 20, 21, 22, 23, 24, 25] (by decide +kernel) (by decide +kernel)
set_option maxRecDepth 20000 in
theorem gX2_spread_X2_greatestCount : GoodIn wsX2_spread (wsV RX2 87 RX2 yX2_greatestCount wsX2_greatestCount) := goodIn_app (goodIn_of _ (by decide +kernel)) ggX2_spread_X2_greatestCount
theorem dX2_spread_0 : decode cX2_spread 0 = .ok (.aload_n 0, 1) := by decide +kernel
theorem dX2_spread_1 : decode cX2_spread 1 = .ok (.invokevirtual 81, 3) := by decide +kernel
theorem dX2_spread_4 : decode cX2_spread 4 = .ok (.istore_n 1, 1) := by decide +kernel
theorem dX2_spread_5 : decode cX2_spread 5 = .ok (.iload_n 1, 1) := by decide +kernel
theorem dX2_spread_6 : decode cX2_spread 6 = .ok (.iconst (-1), 1) := by decide +kernel
theorem dX2_spread_7 : decode cX2_spread 7 = .ok (.if_icmp .ne 7, 3) := by decide +kernel
theorem dX2_spread_10 : decode cX2_spread 10 = .ok (.iconst 0, 1) := by decide +kernel
theorem dX2_spread_11 : decode cX2_spread 11 = .ok (.goto 18, 3) := by decide +kernel
theorem dX2_spread_14 : decode cX2_spread 14 = .ok (.aload_n 0, 1) := by decide +kernel
theorem dX2_spread_15 : decode cX2_spread 15 = .ok (.aload_n 0, 1) := by decide +kernel
theorem dX2_spread_16 : decode cX2_spread 16 = .ok (.getfield 29, 3) := by decide +kernel
theorem dX2_spread_19 : decode cX2_spread 19 = .ok (.invokevirtual 87, 3) := by decide +kernel
theorem dX2_spread_22 : decode cX2_spread 22 = .ok (.aload_n 0, 1) := by decide +kernel
theorem dX2_spread_23 : decode cX2_spread 23 = .ok (.getfield 19, 3) := by decide +kernel
theorem dX2_spread_26 : decode cX2_spread 26 = .ok (.iload_n 1, 1) := by decide +kernel
theorem dX2_spread_27 : decode cX2_spread 27 = .ok (.iaload, 1) := by decide +kernel
theorem dX2_spread_28 : decode cX2_spread 28 = .ok (.isub, 1) := by decide +kernel
theorem dX2_spread_29 : decode cX2_spread 29 = .ok (.ireturn, 1) := by decide +kernel
set_option maxRecDepth 20000 in
theorem ggX2_areAwakeAtOneNumber_X2_isAwake : GoodIn wsX2_areAwakeAtOneNumber wsX2_isAwake := goodIn_r _ [6, 7, 8, 9, 10, 11, 12, 13] (by decide +kernel) (by decide +kernel)
set_option maxRecDepth 20000 in
theorem gX2_areAwakeAtOneNumber_X2_isAwake : GoodIn wsX2_areAwakeAtOneNumber (wsV RX2 38 RX2 yX2_isAwake wsX2_isAwake) := goodIn_app (goodIn_of _ (by decide +kernel)) ggX2_areAwakeAtOneNumber_X2_isAwake
theorem dX2_areAwakeAtOneNumber_0 : decode cX2_areAwakeAtOneNumber 0 = .ok (.aload_n 0, 1) := by decide +kernel
theorem dX2_areAwakeAtOneNumber_1 : decode cX2_areAwakeAtOneNumber 1 = .ok (.iload_n 1, 1) := by decide +kernel
theorem dX2_areAwakeAtOneNumber_2 : decode cX2_areAwakeAtOneNumber 2 = .ok (.invokevirtual 38, 3) := by decide +kernel
theorem dX2_areAwakeAtOneNumber_5 : decode cX2_areAwakeAtOneNumber 5 = .ok (.ifCond .eq 30, 3) := by decide +kernel
theorem dX2_areAwakeAtOneNumber_8 : decode cX2_areAwakeAtOneNumber 8 = .ok (.aload_n 0, 1) := by decide +kernel
theorem dX2_areAwakeAtOneNumber_9 : decode cX2_areAwakeAtOneNumber 9 = .ok (.iload_n 2, 1) := by decide +kernel
theorem dX2_areAwakeAtOneNumber_10 : decode cX2_areAwakeAtOneNumber 10 = .ok (.invokevirtual 38, 3) := by decide +kernel
theorem dX2_areAwakeAtOneNumber_13 : decode cX2_areAwakeAtOneNumber 13 = .ok (.ifCond .eq 22, 3) := by decide +kernel
theorem dX2_areAwakeAtOneNumber_16 : decode cX2_areAwakeAtOneNumber 16 = .ok (.aload_n 0, 1) := by decide +kernel
theorem dX2_areAwakeAtOneNumber_17 : decode cX2_areAwakeAtOneNumber 17 = .ok (.getfield 19, 3) := by decide +kernel
theorem dX2_areAwakeAtOneNumber_20 : decode cX2_areAwakeAtOneNumber 20 = .ok (.iload_n 1, 1) := by decide +kernel
theorem dX2_areAwakeAtOneNumber_21 : decode cX2_areAwakeAtOneNumber 21 = .ok (.iaload, 1) := by decide +kernel
theorem dX2_areAwakeAtOneNumber_22 : decode cX2_areAwakeAtOneNumber 22 = .ok (.aload_n 0, 1) := by decide +kernel
theorem dX2_areAwakeAtOneNumber_23 : decode cX2_areAwakeAtOneNumber 23 = .ok (.getfield 19, 3) := by decide +kernel
theorem dX2_areAwakeAtOneNumber_26 : decode cX2_areAwakeAtOneNumber 26 = .ok (.iload_n 2, 1) := by decide +kernel
theorem dX2_areAwakeAtOneNumber_27 : decode cX2_areAwakeAtOneNumber 27 = .ok (.iaload, 1) := by decide +kernel
theorem dX2_areAwakeAtOneNumber_28 : decode cX2_areAwakeAtOneNumber 28 = .ok (.if_icmp .ne 7, 3) := by decide +kernel
theorem dX2_areAwakeAtOneNumber_31 : decode cX2_areAwakeAtOneNumber 31 = .ok (.iconst 1, 1) := by decide +kernel
theorem dX2_areAwakeAtOneNumber_32 : decode cX2_areAwakeAtOneNumber 32 = .ok (.goto 4, 3) := by decide +kernel
theorem dX2_areAwakeAtOneNumber_35 : decode cX2_areAwakeAtOneNumber 35 = .ok (.iconst 0, 1) := by decide +kernel
theorem dX2_areAwakeAtOneNumber_36 : decode cX2_areAwakeAtOneNumber 36 = .ok (.ireturn, 1) := by decide +kernel
set_option maxRecDepth 20000 in
theorem ggX2_howManyAwakeAt_X2_isAwake : GoodIn wsX2_howManyAwakeAt wsX2_isAwake := goodIn_r _ [6, 7, 8, 9, 10, 11, 12, 13] (by decide +kernel) (by decide +kernel)
set_option maxRecDepth 20000 in
theorem gX2_howManyAwakeAt_X2_isAwake : GoodIn wsX2_howManyAwakeAt (wsV RX2 38 RX2 yX2_isAwake wsX2_isAwake) := goodIn_app (goodIn_of _ (by decide +kernel)) ggX2_howManyAwakeAt_X2_isAwake
theorem dX2_howManyAwakeAt_0 : decode cX2_howManyAwakeAt 0 = .ok (.iconst 0, 1) := by decide +kernel
theorem dX2_howManyAwakeAt_1 : decode cX2_howManyAwakeAt 1 = .ok (.istore_n 2, 1) := by decide +kernel
theorem dX2_howManyAwakeAt_2 : decode cX2_howManyAwakeAt 2 = .ok (.iconst 0, 1) := by decide +kernel
theorem dX2_howManyAwakeAt_3 : decode cX2_howManyAwakeAt 3 = .ok (.istore_n 3, 1) := by decide +kernel
theorem dX2_howManyAwakeAt_4 : decode cX2_howManyAwakeAt 4 = .ok (.iload_n 3, 1) := by decide +kernel
theorem dX2_howManyAwakeAt_5 : decode cX2_howManyAwakeAt 5 = .ok (.bipush 8, 2) := by decide +kernel
theorem dX2_howManyAwakeAt_7 : decode cX2_howManyAwakeAt 7 = .ok (.if_icmp .ge 30, 3) := by decide +kernel
theorem dX2_howManyAwakeAt_10 : decode cX2_howManyAwakeAt 10 = .ok (.aload_n 0, 1) := by decide +kernel
theorem dX2_howManyAwakeAt_11 : decode cX2_howManyAwakeAt 11 = .ok (.iload_n 3, 1) := by decide +kernel
theorem dX2_howManyAwakeAt_12 : decode cX2_howManyAwakeAt 12 = .ok (.invokevirtual 38, 3) := by decide +kernel
theorem dX2_howManyAwakeAt_15 : decode cX2_howManyAwakeAt 15 = .ok (.ifCond .eq 16, 3) := by decide +kernel
theorem dX2_howManyAwakeAt_18 : decode cX2_howManyAwakeAt 18 = .ok (.aload_n 0, 1) := by decide +kernel
theorem dX2_howManyAwakeAt_19 : decode cX2_howManyAwakeAt 19 = .ok (.getfield 19, 3) := by decide +kernel
theorem dX2_howManyAwakeAt_22 : decode cX2_howManyAwakeAt 22 = .ok (.iload_n 3, 1) := by decide +kernel
theorem dX2_howManyAwakeAt_23 : decode cX2_howManyAwakeAt 23 = .ok (.iaload, 1) := by decide +kernel
theorem dX2_howManyAwakeAt_24 : decode cX2_howManyAwakeAt 24 = .ok (.iload_n 1, 1) := by decide +kernel
theorem dX2_howManyAwakeAt_25 : decode cX2_howManyAwakeAt 25 = .ok (.if_icmp .ne 6, 3) := by decide +kernel
theorem dX2_howManyAwakeAt_28 : decode cX2_howManyAwakeAt 28 = .ok (.iinc 2 1, 3) := by decide +kernel
theorem dX2_howManyAwakeAt_31 : decode cX2_howManyAwakeAt 31 = .ok (.iinc 3 1, 3) := by decide +kernel
theorem dX2_howManyAwakeAt_34 : decode cX2_howManyAwakeAt 34 = .ok (.goto (-30), 3) := by decide +kernel
theorem dX2_howManyAwakeAt_37 : decode cX2_howManyAwakeAt 37 = .ok (.iload_n 2, 1) := by decide +kernel
theorem dX2_howManyAwakeAt_38 : decode cX2_howManyAwakeAt 38 = .ok (.ireturn, 1) := by decide +kernel
set_option maxRecDepth 20000 in
theorem ggX2_commonestCount_X2_isAwake : GoodIn wsX2_commonestCount wsX2_isAwake := goodIn_r _ [6, 7, 12, 13, 14, 15, 16, 17] (by decide +kernel) (by decide +kernel)
set_option maxRecDepth 20000 in
theorem gX2_commonestCount_X2_isAwake : GoodIn wsX2_commonestCount (wsV RX2 38 RX2 yX2_isAwake wsX2_isAwake) := goodIn_app (goodIn_of _ (by decide +kernel)) ggX2_commonestCount_X2_isAwake
set_option maxRecDepth 20000 in
theorem ggX2_commonestCount_X2_howManyAwakeAt : GoodIn wsX2_commonestCount wsX2_howManyAwakeAt := goodIn_r _ [11, 1, 2, 3, 4, 5, 6, 7, 12, 13, 14, 15, 16, 17] (by decide +kernel) (by decide +kernel)
set_option maxRecDepth 20000 in
theorem gX2_commonestCount_X2_howManyAwakeAt : GoodIn wsX2_commonestCount (wsV RX2 91 RX2 yX2_howManyAwakeAt wsX2_howManyAwakeAt) := goodIn_app (goodIn_of _ (by decide +kernel)) ggX2_commonestCount_X2_howManyAwakeAt
theorem dX2_commonestCount_0 : decode cX2_commonestCount 0 = .ok (.iconst 0, 1) := by decide +kernel
theorem dX2_commonestCount_1 : decode cX2_commonestCount 1 = .ok (.istore_n 1, 1) := by decide +kernel
theorem dX2_commonestCount_2 : decode cX2_commonestCount 2 = .ok (.iconst 0, 1) := by decide +kernel
theorem dX2_commonestCount_3 : decode cX2_commonestCount 3 = .ok (.istore_n 2, 1) := by decide +kernel
theorem dX2_commonestCount_4 : decode cX2_commonestCount 4 = .ok (.iconst 0, 1) := by decide +kernel
theorem dX2_commonestCount_5 : decode cX2_commonestCount 5 = .ok (.istore_n 3, 1) := by decide +kernel
theorem dX2_commonestCount_6 : decode cX2_commonestCount 6 = .ok (.iload_n 3, 1) := by decide +kernel
theorem dX2_commonestCount_7 : decode cX2_commonestCount 7 = .ok (.bipush 8, 2) := by decide +kernel
theorem dX2_commonestCount_9 : decode cX2_commonestCount 9 = .ok (.if_icmp .ge 64, 3) := by decide +kernel
theorem dX2_commonestCount_12 : decode cX2_commonestCount 12 = .ok (.aload_n 0, 1) := by decide +kernel
theorem dX2_commonestCount_13 : decode cX2_commonestCount 13 = .ok (.iload_n 3, 1) := by decide +kernel
theorem dX2_commonestCount_14 : decode cX2_commonestCount 14 = .ok (.invokevirtual 38, 3) := by decide +kernel
theorem dX2_commonestCount_17 : decode cX2_commonestCount 17 = .ok (.ifCond .ne 6, 3) := by decide +kernel
theorem dX2_commonestCount_20 : decode cX2_commonestCount 20 = .ok (.goto 47, 3) := by decide +kernel
theorem dX2_commonestCount_23 : decode cX2_commonestCount 23 = .ok (.aload_n 0, 1) := by decide +kernel
theorem dX2_commonestCount_24 : decode cX2_commonestCount 24 = .ok (.aload_n 0, 1) := by decide +kernel
theorem dX2_commonestCount_25 : decode cX2_commonestCount 25 = .ok (.getfield 19, 3) := by decide +kernel
theorem dX2_commonestCount_28 : decode cX2_commonestCount 28 = .ok (.iload_n 3, 1) := by decide +kernel
theorem dX2_commonestCount_29 : decode cX2_commonestCount 29 = .ok (.iaload, 1) := by decide +kernel
theorem dX2_commonestCount_30 : decode cX2_commonestCount 30 = .ok (.invokevirtual 91, 3) := by decide +kernel
theorem dX2_commonestCount_33 : decode cX2_commonestCount 33 = .ok (.istore 4, 2) := by decide +kernel
theorem dX2_commonestCount_35 : decode cX2_commonestCount 35 = .ok (.iload 4, 2) := by decide +kernel
theorem dX2_commonestCount_37 : decode cX2_commonestCount 37 = .ok (.iload_n 2, 1) := by decide +kernel
theorem dX2_commonestCount_38 : decode cX2_commonestCount 38 = .ok (.if_icmp .gt 19, 3) := by decide +kernel
theorem dX2_commonestCount_41 : decode cX2_commonestCount 41 = .ok (.iload 4, 2) := by decide +kernel
theorem dX2_commonestCount_43 : decode cX2_commonestCount 43 = .ok (.iload_n 2, 1) := by decide +kernel
theorem dX2_commonestCount_44 : decode cX2_commonestCount 44 = .ok (.if_icmp .ne 23, 3) := by decide +kernel
theorem dX2_commonestCount_47 : decode cX2_commonestCount 47 = .ok (.aload_n 0, 1) := by decide +kernel
theorem dX2_commonestCount_48 : decode cX2_commonestCount 48 = .ok (.getfield 19, 3) := by decide +kernel
theorem dX2_commonestCount_51 : decode cX2_commonestCount 51 = .ok (.iload_n 3, 1) := by decide +kernel
theorem dX2_commonestCount_52 : decode cX2_commonestCount 52 = .ok (.iaload, 1) := by decide +kernel
theorem dX2_commonestCount_53 : decode cX2_commonestCount 53 = .ok (.iload_n 1, 1) := by decide +kernel
theorem dX2_commonestCount_54 : decode cX2_commonestCount 54 = .ok (.if_icmp .ge 13, 3) := by decide +kernel
theorem dX2_commonestCount_57 : decode cX2_commonestCount 57 = .ok (.aload_n 0, 1) := by decide +kernel
theorem dX2_commonestCount_58 : decode cX2_commonestCount 58 = .ok (.getfield 19, 3) := by decide +kernel
theorem dX2_commonestCount_61 : decode cX2_commonestCount 61 = .ok (.iload_n 3, 1) := by decide +kernel
theorem dX2_commonestCount_62 : decode cX2_commonestCount 62 = .ok (.iaload, 1) := by decide +kernel
theorem dX2_commonestCount_63 : decode cX2_commonestCount 63 = .ok (.istore_n 1, 1) := by decide +kernel
theorem dX2_commonestCount_64 : decode cX2_commonestCount 64 = .ok (.iload 4, 2) := by decide +kernel
theorem dX2_commonestCount_66 : decode cX2_commonestCount 66 = .ok (.istore_n 2, 1) := by decide +kernel
theorem dX2_commonestCount_67 : decode cX2_commonestCount 67 = .ok (.iinc 3 1, 3) := by decide +kernel
theorem dX2_commonestCount_70 : decode cX2_commonestCount 70 = .ok (.goto (-64), 3) := by decide +kernel
theorem dX2_commonestCount_73 : decode cX2_commonestCount 73 = .ok (.iload_n 1, 1) := by decide +kernel
theorem dX2_commonestCount_74 : decode cX2_commonestCount 74 = .ok (.ireturn, 1) := by decide +kernel
set_option maxRecDepth 20000 in
theorem ggX2_atNought_X2_isThere : GoodIn wsX2_atNought wsX2_isThere := goodIn_r _ [6, 7, 8, 9, 10, 11, 12, 13] (by decide +kernel) (by decide +kernel)
set_option maxRecDepth 20000 in
theorem gX2_atNought_X2_isThere : GoodIn wsX2_atNought (wsV RX2 42 RX2 yX2_isThere wsX2_isThere) := goodIn_app (goodIn_of _ (by decide +kernel)) ggX2_atNought_X2_isThere
theorem dX2_atNought_0 : decode cX2_atNought 0 = .ok (.iconst 0, 1) := by decide +kernel
theorem dX2_atNought_1 : decode cX2_atNought 1 = .ok (.istore_n 1, 1) := by decide +kernel
theorem dX2_atNought_2 : decode cX2_atNought 2 = .ok (.iconst 0, 1) := by decide +kernel
theorem dX2_atNought_3 : decode cX2_atNought 3 = .ok (.istore_n 2, 1) := by decide +kernel
theorem dX2_atNought_4 : decode cX2_atNought 4 = .ok (.iload_n 2, 1) := by decide +kernel
theorem dX2_atNought_5 : decode cX2_atNought 5 = .ok (.bipush 8, 2) := by decide +kernel
theorem dX2_atNought_7 : decode cX2_atNought 7 = .ok (.if_icmp .ge 32, 3) := by decide +kernel
theorem dX2_atNought_10 : decode cX2_atNought 10 = .ok (.aload_n 0, 1) := by decide +kernel
theorem dX2_atNought_11 : decode cX2_atNought 11 = .ok (.iload_n 2, 1) := by decide +kernel
theorem dX2_atNought_12 : decode cX2_atNought 12 = .ok (.invokevirtual 42, 3) := by decide +kernel
theorem dX2_atNought_15 : decode cX2_atNought 15 = .ok (.ifCond .eq 18, 3) := by decide +kernel
theorem dX2_atNought_18 : decode cX2_atNought 18 = .ok (.aload_n 0, 1) := by decide +kernel
theorem dX2_atNought_19 : decode cX2_atNought 19 = .ok (.getfield 19, 3) := by decide +kernel
theorem dX2_atNought_22 : decode cX2_atNought 22 = .ok (.iload_n 2, 1) := by decide +kernel
theorem dX2_atNought_23 : decode cX2_atNought 23 = .ok (.iaload, 1) := by decide +kernel
theorem dX2_atNought_24 : decode cX2_atNought 24 = .ok (.ifCond .ne 9, 3) := by decide +kernel
theorem dX2_atNought_27 : decode cX2_atNought 27 = .ok (.iload_n 1, 1) := by decide +kernel
theorem dX2_atNought_28 : decode cX2_atNought 28 = .ok (.iconst 1, 1) := by decide +kernel
theorem dX2_atNought_29 : decode cX2_atNought 29 = .ok (.iload_n 2, 1) := by decide +kernel
theorem dX2_atNought_30 : decode cX2_atNought 30 = .ok (.ishl, 1) := by decide +kernel
theorem dX2_atNought_31 : decode cX2_atNought 31 = .ok (.ior, 1) := by decide +kernel
theorem dX2_atNought_32 : decode cX2_atNought 32 = .ok (.istore_n 1, 1) := by decide +kernel
theorem dX2_atNought_33 : decode cX2_atNought 33 = .ok (.iinc 2 1, 3) := by decide +kernel
theorem dX2_atNought_36 : decode cX2_atNought 36 = .ok (.goto (-32), 3) := by decide +kernel
theorem dX2_atNought_39 : decode cX2_atNought 39 = .ok (.iload_n 1, 1) := by decide +kernel
theorem dX2_atNought_40 : decode cX2_atNought 40 = .ok (.ireturn, 1) := by decide +kernel
set_option maxRecDepth 20000 in
theorem ggX2_sumOfCounts_X2_isThere : GoodIn wsX2_sumOfCounts wsX2_isThere := goodIn_r _ [6, 7, 8, 9, 10, 11, 12, 13] (by decide +kernel) (by decide +kernel)
set_option maxRecDepth 20000 in
theorem gX2_sumOfCounts_X2_isThere : GoodIn wsX2_sumOfCounts (wsV RX2 42 RX2 yX2_isThere wsX2_isThere) := goodIn_app (goodIn_of _ (by decide +kernel)) ggX2_sumOfCounts_X2_isThere
theorem dX2_sumOfCounts_0 : decode cX2_sumOfCounts 0 = .ok (.iconst 0, 1) := by decide +kernel
theorem dX2_sumOfCounts_1 : decode cX2_sumOfCounts 1 = .ok (.istore_n 1, 1) := by decide +kernel
theorem dX2_sumOfCounts_2 : decode cX2_sumOfCounts 2 = .ok (.iconst 0, 1) := by decide +kernel
theorem dX2_sumOfCounts_3 : decode cX2_sumOfCounts 3 = .ok (.istore_n 2, 1) := by decide +kernel
theorem dX2_sumOfCounts_4 : decode cX2_sumOfCounts 4 = .ok (.iload_n 2, 1) := by decide +kernel
theorem dX2_sumOfCounts_5 : decode cX2_sumOfCounts 5 = .ok (.bipush 8, 2) := by decide +kernel
theorem dX2_sumOfCounts_7 : decode cX2_sumOfCounts 7 = .ok (.if_icmp .ge 26, 3) := by decide +kernel
theorem dX2_sumOfCounts_10 : decode cX2_sumOfCounts 10 = .ok (.aload_n 0, 1) := by decide +kernel
theorem dX2_sumOfCounts_11 : decode cX2_sumOfCounts 11 = .ok (.iload_n 2, 1) := by decide +kernel
theorem dX2_sumOfCounts_12 : decode cX2_sumOfCounts 12 = .ok (.invokevirtual 42, 3) := by decide +kernel
theorem dX2_sumOfCounts_15 : decode cX2_sumOfCounts 15 = .ok (.ifCond .eq 12, 3) := by decide +kernel
theorem dX2_sumOfCounts_18 : decode cX2_sumOfCounts 18 = .ok (.iload_n 1, 1) := by decide +kernel
theorem dX2_sumOfCounts_19 : decode cX2_sumOfCounts 19 = .ok (.aload_n 0, 1) := by decide +kernel
theorem dX2_sumOfCounts_20 : decode cX2_sumOfCounts 20 = .ok (.getfield 19, 3) := by decide +kernel
theorem dX2_sumOfCounts_23 : decode cX2_sumOfCounts 23 = .ok (.iload_n 2, 1) := by decide +kernel
theorem dX2_sumOfCounts_24 : decode cX2_sumOfCounts 24 = .ok (.iaload, 1) := by decide +kernel
theorem dX2_sumOfCounts_25 : decode cX2_sumOfCounts 25 = .ok (.iadd, 1) := by decide +kernel
theorem dX2_sumOfCounts_26 : decode cX2_sumOfCounts 26 = .ok (.istore_n 1, 1) := by decide +kernel
theorem dX2_sumOfCounts_27 : decode cX2_sumOfCounts 27 = .ok (.iinc 2 1, 3) := by decide +kernel
theorem dX2_sumOfCounts_30 : decode cX2_sumOfCounts 30 = .ok (.goto (-26), 3) := by decide +kernel
theorem dX2_sumOfCounts_33 : decode cX2_sumOfCounts 33 = .ok (.iload_n 1, 1) := by decide +kernel
theorem dX2_sumOfCounts_34 : decode cX2_sumOfCounts 34 = .ok (.ireturn, 1) := by decide +kernel
theorem dX2_breathsToEnd_0 : decode cX2_breathsToEnd 0 = .ok (.bipush (-6), 2) := by decide +kernel
theorem dX2_breathsToEnd_2 : decode cX2_breathsToEnd 2 = .ok (.istore_n 2, 1) := by decide +kernel
theorem dX2_breathsToEnd_3 : decode cX2_breathsToEnd 3 = .ok (.iconst 0, 1) := by decide +kernel
theorem dX2_breathsToEnd_4 : decode cX2_breathsToEnd 4 = .ok (.istore_n 3, 1) := by decide +kernel
theorem dX2_breathsToEnd_5 : decode cX2_breathsToEnd 5 = .ok (.iload_n 3, 1) := by decide +kernel
theorem dX2_breathsToEnd_6 : decode cX2_breathsToEnd 6 = .ok (.bipush 8, 2) := by decide +kernel
theorem dX2_breathsToEnd_8 : decode cX2_breathsToEnd 8 = .ok (.if_icmp .ge 53, 3) := by decide +kernel
theorem dX2_breathsToEnd_11 : decode cX2_breathsToEnd 11 = .ok (.iload_n 1, 1) := by decide +kernel
theorem dX2_breathsToEnd_12 : decode cX2_breathsToEnd 12 = .ok (.iconst 1, 1) := by decide +kernel
theorem dX2_breathsToEnd_13 : decode cX2_breathsToEnd 13 = .ok (.iload_n 3, 1) := by decide +kernel
theorem dX2_breathsToEnd_14 : decode cX2_breathsToEnd 14 = .ok (.ishl, 1) := by decide +kernel
theorem dX2_breathsToEnd_15 : decode cX2_breathsToEnd 15 = .ok (.iand, 1) := by decide +kernel
theorem dX2_breathsToEnd_16 : decode cX2_breathsToEnd 16 = .ok (.ifCond .eq 39, 3) := by decide +kernel
theorem dX2_breathsToEnd_19 : decode cX2_breathsToEnd 19 = .ok (.aload_n 0, 1) := by decide +kernel
theorem dX2_breathsToEnd_20 : decode cX2_breathsToEnd 20 = .ok (.getfield 23, 3) := by decide +kernel
theorem dX2_breathsToEnd_23 : decode cX2_breathsToEnd 23 = .ok (.iload_n 3, 1) := by decide +kernel
theorem dX2_breathsToEnd_24 : decode cX2_breathsToEnd 24 = .ok (.iaload, 1) := by decide +kernel
theorem dX2_breathsToEnd_25 : decode cX2_breathsToEnd 25 = .ok (.ifCond .le 30, 3) := by decide +kernel
theorem dX2_breathsToEnd_28 : decode cX2_breathsToEnd 28 = .ok (.iload_n 2, 1) := by decide +kernel
theorem dX2_breathsToEnd_29 : decode cX2_breathsToEnd 29 = .ok (.aload_n 0, 1) := by decide +kernel
theorem dX2_breathsToEnd_30 : decode cX2_breathsToEnd 30 = .ok (.getfield 19, 3) := by decide +kernel
theorem dX2_breathsToEnd_33 : decode cX2_breathsToEnd 33 = .ok (.iload_n 3, 1) := by decide +kernel
theorem dX2_breathsToEnd_34 : decode cX2_breathsToEnd 34 = .ok (.iaload, 1) := by decide +kernel
theorem dX2_breathsToEnd_35 : decode cX2_breathsToEnd 35 = .ok (.aload_n 0, 1) := by decide +kernel
theorem dX2_breathsToEnd_36 : decode cX2_breathsToEnd 36 = .ok (.getfield 23, 3) := by decide +kernel
theorem dX2_breathsToEnd_39 : decode cX2_breathsToEnd 39 = .ok (.iload_n 3, 1) := by decide +kernel
theorem dX2_breathsToEnd_40 : decode cX2_breathsToEnd 40 = .ok (.iaload, 1) := by decide +kernel
theorem dX2_breathsToEnd_41 : decode cX2_breathsToEnd 41 = .ok (.iadd, 1) := by decide +kernel
theorem dX2_breathsToEnd_42 : decode cX2_breathsToEnd 42 = .ok (.iconst 1, 1) := by decide +kernel
theorem dX2_breathsToEnd_43 : decode cX2_breathsToEnd 43 = .ok (.isub, 1) := by decide +kernel
theorem dX2_breathsToEnd_44 : decode cX2_breathsToEnd 44 = .ok (.aload_n 0, 1) := by decide +kernel
theorem dX2_breathsToEnd_45 : decode cX2_breathsToEnd 45 = .ok (.getfield 23, 3) := by decide +kernel
theorem dX2_breathsToEnd_48 : decode cX2_breathsToEnd 48 = .ok (.iload_n 3, 1) := by decide +kernel
theorem dX2_breathsToEnd_49 : decode cX2_breathsToEnd 49 = .ok (.iaload, 1) := by decide +kernel
theorem dX2_breathsToEnd_50 : decode cX2_breathsToEnd 50 = .ok (.idiv, 1) := by decide +kernel
theorem dX2_breathsToEnd_51 : decode cX2_breathsToEnd 51 = .ok (.invokestatic 84, 3) := by decide +kernel
theorem dX2_breathsToEnd_54 : decode cX2_breathsToEnd 54 = .ok (.istore_n 2, 1) := by decide +kernel
theorem dX2_breathsToEnd_55 : decode cX2_breathsToEnd 55 = .ok (.iinc 3 1, 3) := by decide +kernel
theorem dX2_breathsToEnd_58 : decode cX2_breathsToEnd 58 = .ok (.goto (-53), 3) := by decide +kernel
theorem dX2_breathsToEnd_61 : decode cX2_breathsToEnd 61 = .ok (.iload_n 2, 1) := by decide +kernel
theorem dX2_breathsToEnd_62 : decode cX2_breathsToEnd 62 = .ok (.ireturn, 1) := by decide +kernel
set_option maxRecDepth 20000 in
theorem ggX2_breathsToMeet_X2_countBehind : GoodIn wsX2_breathsToMeet wsX2_countBehind := goodIn_r _ [7, 1, 2, 8, 9, 10, 11, 12, 13, 14, 15, 16, 17] (by decide +kernel) (by decide +kernel)
set_option maxRecDepth 20000 in
theorem gX2_breathsToMeet_X2_countBehind : GoodIn wsX2_breathsToMeet (wsV RX2 77 RX2 yX2_countBehind wsX2_countBehind) := goodIn_app (goodIn_of _ (by decide +kernel)) ggX2_breathsToMeet_X2_countBehind
theorem dX2_breathsToMeet_0 : decode cX2_breathsToMeet 0 = .ok (.aload_n 0, 1) := by decide +kernel
theorem dX2_breathsToMeet_1 : decode cX2_breathsToMeet 1 = .ok (.getfield 19, 3) := by decide +kernel
theorem dX2_breathsToMeet_4 : decode cX2_breathsToMeet 4 = .ok (.iload_n 1, 1) := by decide +kernel
theorem dX2_breathsToMeet_5 : decode cX2_breathsToMeet 5 = .ok (.iaload, 1) := by decide +kernel
theorem dX2_breathsToMeet_6 : decode cX2_breathsToMeet 6 = .ok (.aload_n 0, 1) := by decide +kernel
theorem dX2_breathsToMeet_7 : decode cX2_breathsToMeet 7 = .ok (.getfield 19, 3) := by decide +kernel
theorem dX2_breathsToMeet_10 : decode cX2_breathsToMeet 10 = .ok (.iload_n 2, 1) := by decide +kernel
theorem dX2_breathsToMeet_11 : decode cX2_breathsToMeet 11 = .ok (.iaload, 1) := by decide +kernel
theorem dX2_breathsToMeet_12 : decode cX2_breathsToMeet 12 = .ok (.isub, 1) := by decide +kernel
theorem dX2_breathsToMeet_13 : decode cX2_breathsToMeet 13 = .ok (.istore_n 3, 1) := by decide +kernel
theorem dX2_breathsToMeet_14 : decode cX2_breathsToMeet 14 = .ok (.aload_n 0, 1) := by decide +kernel
theorem dX2_breathsToMeet_15 : decode cX2_breathsToMeet 15 = .ok (.getfield 23, 3) := by decide +kernel
theorem dX2_breathsToMeet_18 : decode cX2_breathsToMeet 18 = .ok (.iload_n 1, 1) := by decide +kernel
theorem dX2_breathsToMeet_19 : decode cX2_breathsToMeet 19 = .ok (.iaload, 1) := by decide +kernel
theorem dX2_breathsToMeet_20 : decode cX2_breathsToMeet 20 = .ok (.aload_n 0, 1) := by decide +kernel
theorem dX2_breathsToMeet_21 : decode cX2_breathsToMeet 21 = .ok (.getfield 23, 3) := by decide +kernel
theorem dX2_breathsToMeet_24 : decode cX2_breathsToMeet 24 = .ok (.iload_n 2, 1) := by decide +kernel
theorem dX2_breathsToMeet_25 : decode cX2_breathsToMeet 25 = .ok (.iaload, 1) := by decide +kernel
theorem dX2_breathsToMeet_26 : decode cX2_breathsToMeet 26 = .ok (.isub, 1) := by decide +kernel
theorem dX2_breathsToMeet_27 : decode cX2_breathsToMeet 27 = .ok (.istore 4, 2) := by decide +kernel
theorem dX2_breathsToMeet_29 : decode cX2_breathsToMeet 29 = .ok (.iload_n 3, 1) := by decide +kernel
theorem dX2_breathsToMeet_30 : decode cX2_breathsToMeet 30 = .ok (.ifCond .ne 19, 3) := by decide +kernel
theorem dX2_breathsToMeet_33 : decode cX2_breathsToMeet 33 = .ok (.aload_n 0, 1) := by decide +kernel
theorem dX2_breathsToMeet_34 : decode cX2_breathsToMeet 34 = .ok (.getfield 19, 3) := by decide +kernel
theorem dX2_breathsToMeet_37 : decode cX2_breathsToMeet 37 = .ok (.iload_n 1, 1) := by decide +kernel
theorem dX2_breathsToMeet_38 : decode cX2_breathsToMeet 38 = .ok (.iaload, 1) := by decide +kernel
theorem dX2_breathsToMeet_39 : decode cX2_breathsToMeet 39 = .ok (.ifCond .le 7, 3) := by decide +kernel
theorem dX2_breathsToMeet_42 : decode cX2_breathsToMeet 42 = .ok (.iconst 0, 1) := by decide +kernel
theorem dX2_breathsToMeet_43 : decode cX2_breathsToMeet 43 = .ok (.goto 5, 3) := by decide +kernel
theorem dX2_breathsToMeet_46 : decode cX2_breathsToMeet 46 = .ok (.bipush (-6), 2) := by decide +kernel
theorem dX2_breathsToMeet_48 : decode cX2_breathsToMeet 48 = .ok (.ireturn, 1) := by decide +kernel
theorem dX2_breathsToMeet_49 : decode cX2_breathsToMeet 49 = .ok (.iload 4, 2) := by decide +kernel
theorem dX2_breathsToMeet_51 : decode cX2_breathsToMeet 51 = .ok (.ifCond .eq 10, 3) := by decide +kernel
theorem dX2_breathsToMeet_54 : decode cX2_breathsToMeet 54 = .ok (.iload_n 3, 1) := by decide +kernel
theorem dX2_breathsToMeet_55 : decode cX2_breathsToMeet 55 = .ok (.iload 4, 2) := by decide +kernel
theorem dX2_breathsToMeet_57 : decode cX2_breathsToMeet 57 = .ok (.irem, 1) := by decide +kernel
theorem dX2_breathsToMeet_58 : decode cX2_breathsToMeet 58 = .ok (.ifCond .eq 6, 3) := by decide +kernel
theorem dX2_breathsToMeet_61 : decode cX2_breathsToMeet 61 = .ok (.bipush (-6), 2) := by decide +kernel
theorem dX2_breathsToMeet_63 : decode cX2_breathsToMeet 63 = .ok (.ireturn, 1) := by decide +kernel
theorem dX2_breathsToMeet_64 : decode cX2_breathsToMeet 64 = .ok (.iload_n 3, 1) := by decide +kernel
theorem dX2_breathsToMeet_65 : decode cX2_breathsToMeet 65 = .ok (.iload 4, 2) := by decide +kernel
theorem dX2_breathsToMeet_67 : decode cX2_breathsToMeet 67 = .ok (.idiv, 1) := by decide +kernel
theorem dX2_breathsToMeet_68 : decode cX2_breathsToMeet 68 = .ok (.istore 5, 2) := by decide +kernel
theorem dX2_breathsToMeet_70 : decode cX2_breathsToMeet 70 = .ok (.iload 5, 2) := by decide +kernel
theorem dX2_breathsToMeet_72 : decode cX2_breathsToMeet 72 = .ok (.ifCond .le 19, 3) := by decide +kernel
theorem dX2_breathsToMeet_75 : decode cX2_breathsToMeet 75 = .ok (.aload_n 0, 1) := by decide +kernel
theorem dX2_breathsToMeet_76 : decode cX2_breathsToMeet 76 = .ok (.iload_n 1, 1) := by decide +kernel
theorem dX2_breathsToMeet_77 : decode cX2_breathsToMeet 77 = .ok (.iconst 0, 1) := by decide +kernel
theorem dX2_breathsToMeet_78 : decode cX2_breathsToMeet 78 = .ok (.iload 5, 2) := by decide +kernel
theorem dX2_breathsToMeet_80 : decode cX2_breathsToMeet 80 = .ok (.invokevirtual 77, 3) := by decide +kernel
theorem dX2_breathsToMeet_83 : decode cX2_breathsToMeet 83 = .ok (.ifCond .le 8, 3) := by decide +kernel
theorem dX2_breathsToMeet_86 : decode cX2_breathsToMeet 86 = .ok (.iload 5, 2) := by decide +kernel
theorem dX2_breathsToMeet_88 : decode cX2_breathsToMeet 88 = .ok (.goto 5, 3) := by decide +kernel
theorem dX2_breathsToMeet_91 : decode cX2_breathsToMeet 91 = .ok (.bipush (-6), 2) := by decide +kernel
theorem dX2_breathsToMeet_93 : decode cX2_breathsToMeet 93 = .ok (.ireturn, 1) := by decide +kernel
set_option maxRecDepth 20000 in
theorem ggX3_init_X2_init : GoodIn wsX3_init wsX2_init := goodIn_r _ [13, 14, 2, 3, 15, 16, 17, 18, 19, 20, 28, 29, 30, 31, 32, 33] (by decide +kernel) (by decide +kernel)
set_option maxRecDepth 20000 in
theorem gX3_init_X2_init_n9 : GoodIn wsX3_init (wsX2_init) := ggX3_init_X2_init
set_option maxRecDepth 20000 in
theorem ggX3_init_X6_init : GoodIn wsX3_init wsX6_init := goodIn_r _ [22, 23, 2, 3, 18, 24, 25, 26, 27, 37, 38, 39, 40] (by decide +kernel) (by decide +kernel)
set_option maxRecDepth 20000 in
theorem gX3_init_X6_init_n18 : GoodIn wsX3_init (wsX6_init) := ggX3_init_X6_init
theorem dX3_init_0 : decode cX3_init 0 = .ok (.aload_n 0, 1) := by decide +kernel
theorem dX3_init_1 : decode cX3_init 1 = .ok (.invokespecial 1, 3) := by decide +kernel
theorem dX3_init_4 : decode cX3_init 4 = .ok (.aload_n 0, 1) := by decide +kernel
theorem dX3_init_5 : decode cX3_init 5 = .ok (.new 7, 3) := by decide +kernel
theorem dX3_init_8 : decode cX3_init 8 = .ok (.dup, 1) := by decide +kernel
theorem dX3_init_9 : decode cX3_init 9 = .ok (.invokespecial 9, 3) := by decide +kernel
theorem dX3_init_12 : decode cX3_init 12 = .ok (.putfield 10, 3) := by decide +kernel
theorem dX3_init_15 : decode cX3_init 15 = .ok (.aload_n 0, 1) := by decide +kernel
theorem dX3_init_16 : decode cX3_init 16 = .ok (.new 16, 3) := by decide +kernel
theorem dX3_init_19 : decode cX3_init 19 = .ok (.dup, 1) := by decide +kernel
theorem dX3_init_20 : decode cX3_init 20 = .ok (.invokespecial 18, 3) := by decide +kernel
theorem dX3_init_23 : decode cX3_init 23 = .ok (.putfield 19, 3) := by decide +kernel
theorem dX3_init_26 : decode cX3_init 26 = .ok (.return_, 1) := by decide +kernel
set_option maxRecDepth 20000 in
theorem ggX3_keep_X2_copyFrom : GoodIn wsX3_keep wsX2_copyFrom := goodIn_r _ [8, 9, 10, 11, 12, 13, 14, 15, 16, 17, 18, 31, 32, 33, 34, 35, 36] (by decide +kernel) (by decide +kernel)
set_option maxRecDepth 20000 in
theorem gX3_keep_X2_copyFrom : GoodIn wsX3_keep (wsV RX3 23 RX2 yX2_copyFrom wsX2_copyFrom) := goodIn_app (goodIn_of _ (by decide +kernel)) ggX3_keep_X2_copyFrom
set_option maxRecDepth 20000 in
theorem ggX3_keep_X6_copyFrom : GoodIn wsX3_keep wsX6_copyFrom := goodIn_r _ [23, 24, 25, 26, 27, 37, 38, 39, 40] (by decide +kernel) (by decide +kernel)
set_option maxRecDepth 20000 in
theorem gX3_keep_X6_copyFrom : GoodIn wsX3_keep (wsV RX3 27 RX6 yX6_copyFrom wsX6_copyFrom) := goodIn_app (goodIn_of _ (by decide +kernel)) ggX3_keep_X6_copyFrom
theorem dX3_keep_0 : decode cX3_keep 0 = .ok (.aload_n 0, 1) := by decide +kernel
theorem dX3_keep_1 : decode cX3_keep 1 = .ok (.getfield 10, 3) := by decide +kernel
theorem dX3_keep_4 : decode cX3_keep 4 = .ok (.aload_n 1, 1) := by decide +kernel
theorem dX3_keep_5 : decode cX3_keep 5 = .ok (.invokevirtual 23, 3) := by decide +kernel
theorem dX3_keep_8 : decode cX3_keep 8 = .ok (.aload_n 0, 1) := by decide +kernel
theorem dX3_keep_9 : decode cX3_keep 9 = .ok (.getfield 19, 3) := by decide +kernel
theorem dX3_keep_12 : decode cX3_keep 12 = .ok (.aload_n 2, 1) := by decide +kernel
theorem dX3_keep_13 : decode cX3_keep 13 = .ok (.invokevirtual 27, 3) := by decide +kernel
theorem dX3_keep_16 : decode cX3_keep 16 = .ok (.aload_n 0, 1) := by decide +kernel
theorem dX3_keep_17 : decode cX3_keep 17 = .ok (.iconst 1, 1) := by decide +kernel
theorem dX3_keep_18 : decode cX3_keep 18 = .ok (.putfield 30, 3) := by decide +kernel
theorem dX3_keep_21 : decode cX3_keep 21 = .ok (.return_, 1) := by decide +kernel
set_option maxRecDepth 20000 in
theorem ggX3_giveBack_X2_copyFrom : GoodIn wsX3_giveBack wsX2_copyFrom := goodIn_r _ [7, 8, 9, 10, 11, 12, 13, 14, 15, 16, 17, 30, 31, 32, 33, 34, 35] (by decide +kernel) (by decide +kernel)
set_option maxRecDepth 20000 in
theorem gX3_giveBack_X2_copyFrom : GoodIn wsX3_giveBack (wsV RX3 23 RX2 yX2_copyFrom wsX2_copyFrom) := goodIn_app (goodIn_of _ (by decide +kernel)) ggX3_giveBack_X2_copyFrom
set_option maxRecDepth 20000 in
theorem ggX3_giveBack_X6_copyFrom : GoodIn wsX3_giveBack wsX6_copyFrom := goodIn_r _ [22, 23, 24, 25, 26, 36, 37, 38, 39] (by decide +kernel) (by decide +kernel)
set_option maxRecDepth 20000 in
theorem gX3_giveBack_X6_copyFrom : GoodIn wsX3_giveBack (wsV RX3 27 RX6 yX6_copyFrom wsX6_copyFrom) := goodIn_app (goodIn_of _ (by decide +kernel)) ggX3_giveBack_X6_copyFrom
theorem dX3_giveBack_0 : decode cX3_giveBack 0 = .ok (.aload_n 1, 1) := by decide +kernel
theorem dX3_giveBack_1 : decode cX3_giveBack 1 = .ok (.aload_n 0, 1) := by decide +kernel
theorem dX3_giveBack_2 : decode cX3_giveBack 2 = .ok (.getfield 10, 3) := by decide +kernel
theorem dX3_giveBack_5 : decode cX3_giveBack 5 = .ok (.invokevirtual 23, 3) := by decide +kernel
theorem dX3_giveBack_8 : decode cX3_giveBack 8 = .ok (.aload_n 2, 1) := by decide +kernel
theorem dX3_giveBack_9 : decode cX3_giveBack 9 = .ok (.aload_n 0, 1) := by decide +kernel
theorem dX3_giveBack_10 : decode cX3_giveBack 10 = .ok (.getfield 19, 3) := by decide +kernel
theorem dX3_giveBack_13 : decode cX3_giveBack 13 = .ok (.invokevirtual 27, 3) := by decide +kernel
theorem dX3_giveBack_16 : decode cX3_giveBack 16 = .ok (.return_, 1) := by decide +kernel
theorem dX4_init_0 : decode cX4_init 0 = .ok (.aload_n 0, 1) := by decide +kernel
theorem dX4_init_1 : decode cX4_init 1 = .ok (.invokespecial 3, 3) := by decide +kernel
theorem dX4_init_4 : decode cX4_init 4 = .ok (.return_, 1) := by decide +kernel
set_option maxRecDepth 20000 in
theorem ggX4_bowAt_X4_isPrime : GoodIn wsX4_bowAt wsX4_isPrime := goodIn_r _ [4] (by decide +kernel) (by decide +kernel)
set_option maxRecDepth 20000 in
theorem gX4_bowAt_X4_isPrime : GoodIn wsX4_bowAt (va_wsS RX4 9 yX4_isPrime wsX4_isPrime) := goodIn_app (goodIn_of _ (by decide +kernel)) ggX4_bowAt_X4_isPrime
set_option maxRecDepth 20000 in
theorem ggX4_bowAt_X4_rootOf : GoodIn wsX4_bowAt wsX4_rootOf := goodIn_r _ [7] (by decide +kernel) (by decide +kernel)
set_option maxRecDepth 20000 in
theorem gX4_bowAt_X4_rootOf : GoodIn wsX4_bowAt (va_wsS RX4 15 yX4_rootOf wsX4_rootOf) := goodIn_app (goodIn_of _ (by decide +kernel)) ggX4_bowAt_X4_rootOf
set_option maxRecDepth 20000 in
theorem ggX4_bowAt_X4_withMirrored : GoodIn wsX4_bowAt wsX4_withMirrored := goodIn_r _ [10] (by decide +kernel) (by decide +kernel)
set_option maxRecDepth 20000 in
theorem gX4_bowAt_X4_withMirrored : GoodIn wsX4_bowAt (va_wsS RX4 19 yX4_withMirrored wsX4_withMirrored) := goodIn_app (goodIn_of _ (by decide +kernel)) ggX4_bowAt_X4_withMirrored
set_option maxRecDepth 20000 in
theorem ggX4_bowAt_X4_digitSum : GoodIn wsX4_bowAt wsX4_digitSum := goodIn_r _ [13] (by decide +kernel) (by decide +kernel)
set_option maxRecDepth 20000 in
theorem gX4_bowAt_X4_digitSum : GoodIn wsX4_bowAt (va_wsS RX4 23 yX4_digitSum wsX4_digitSum) := goodIn_app (goodIn_of _ (by decide +kernel)) ggX4_bowAt_X4_digitSum
set_option maxRecDepth 20000 in
theorem ggX4_bowAt_X4_isMultipleOf : GoodIn wsX4_bowAt wsX4_isMultipleOf := goodIn_r _ [16] (by decide +kernel) (by decide +kernel)
set_option maxRecDepth 20000 in
theorem gX4_bowAt_X4_isMultipleOf : GoodIn wsX4_bowAt (va_wsS RX4 26 yX4_isMultipleOf wsX4_isMultipleOf) := goodIn_app (goodIn_of _ (by decide +kernel)) ggX4_bowAt_X4_isMultipleOf
theorem dX4_bowAt_0 : decode cX4_bowAt 0 = .ok (.iload_n 1, 1) := by decide +kernel
theorem dX4_bowAt_1 : decode cX4_bowAt 1 = .ok (.iconst 1, 1) := by decide +kernel
theorem dX4_bowAt_2 : decode cX4_bowAt 2 = .ok (.if_icmp .ge 5, 3) := by decide +kernel
theorem dX4_bowAt_5 : decode cX4_bowAt 5 = .ok (.iconst 0, 1) := by decide +kernel
theorem dX4_bowAt_6 : decode cX4_bowAt 6 = .ok (.ireturn, 1) := by decide +kernel
theorem dX4_bowAt_7 : decode cX4_bowAt 7 = .ok (.iload_n 0, 1) := by decide +kernel
theorem dX4_bowAt_8 : decode cX4_bowAt 8 = .ok (.tableswitch 80 0 3 #[32, 37, 56, 71], 32) := by decide +kernel
theorem dX4_bowAt_40 : decode cX4_bowAt 40 = .ok (.iload_n 1, 1) := by decide +kernel
theorem dX4_bowAt_41 : decode cX4_bowAt 41 = .ok (.invokestatic 9, 3) := by decide +kernel
theorem dX4_bowAt_44 : decode cX4_bowAt 44 = .ok (.ireturn, 1) := by decide +kernel
theorem dX4_bowAt_45 : decode cX4_bowAt 45 = .ok (.iload_n 1, 1) := by decide +kernel
theorem dX4_bowAt_46 : decode cX4_bowAt 46 = .ok (.invokestatic 15, 3) := by decide +kernel
theorem dX4_bowAt_49 : decode cX4_bowAt 49 = .ok (.iload_n 1, 1) := by decide +kernel
theorem dX4_bowAt_50 : decode cX4_bowAt 50 = .ok (.invokestatic 15, 3) := by decide +kernel
theorem dX4_bowAt_53 : decode cX4_bowAt 53 = .ok (.imul, 1) := by decide +kernel
theorem dX4_bowAt_54 : decode cX4_bowAt 54 = .ok (.iload_n 1, 1) := by decide +kernel
theorem dX4_bowAt_55 : decode cX4_bowAt 55 = .ok (.if_icmp .ne 7, 3) := by decide +kernel
theorem dX4_bowAt_58 : decode cX4_bowAt 58 = .ok (.iconst 1, 1) := by decide +kernel
theorem dX4_bowAt_59 : decode cX4_bowAt 59 = .ok (.goto 4, 3) := by decide +kernel
theorem dX4_bowAt_62 : decode cX4_bowAt 62 = .ok (.iconst 0, 1) := by decide +kernel
theorem dX4_bowAt_63 : decode cX4_bowAt 63 = .ok (.ireturn, 1) := by decide +kernel
theorem dX4_bowAt_64 : decode cX4_bowAt 64 = .ok (.iconst 0, 1) := by decide +kernel
theorem dX4_bowAt_65 : decode cX4_bowAt 65 = .ok (.iload_n 1, 1) := by decide +kernel
theorem dX4_bowAt_66 : decode cX4_bowAt 66 = .ok (.invokestatic 19, 3) := by decide +kernel
theorem dX4_bowAt_69 : decode cX4_bowAt 69 = .ok (.iload_n 1, 1) := by decide +kernel
theorem dX4_bowAt_70 : decode cX4_bowAt 70 = .ok (.if_icmp .ne 7, 3) := by decide +kernel
theorem dX4_bowAt_73 : decode cX4_bowAt 73 = .ok (.iconst 1, 1) := by decide +kernel
theorem dX4_bowAt_74 : decode cX4_bowAt 74 = .ok (.goto 4, 3) := by decide +kernel
theorem dX4_bowAt_77 : decode cX4_bowAt 77 = .ok (.iconst 0, 1) := by decide +kernel
theorem dX4_bowAt_78 : decode cX4_bowAt 78 = .ok (.ireturn, 1) := by decide +kernel
theorem dX4_bowAt_79 : decode cX4_bowAt 79 = .ok (.iload_n 1, 1) := by decide +kernel
theorem dX4_bowAt_80 : decode cX4_bowAt 80 = .ok (.iload_n 1, 1) := by decide +kernel
theorem dX4_bowAt_81 : decode cX4_bowAt 81 = .ok (.invokestatic 23, 3) := by decide +kernel
theorem dX4_bowAt_84 : decode cX4_bowAt 84 = .ok (.invokestatic 26, 3) := by decide +kernel
theorem dX4_bowAt_87 : decode cX4_bowAt 87 = .ok (.ireturn, 1) := by decide +kernel
theorem dX4_bowAt_88 : decode cX4_bowAt 88 = .ok (.iload_n 1, 1) := by decide +kernel
theorem dX4_bowAt_89 : decode cX4_bowAt 89 = .ok (.iload_n 1, 1) := by decide +kernel
theorem dX4_bowAt_90 : decode cX4_bowAt 90 = .ok (.iconst 1, 1) := by decide +kernel
theorem dX4_bowAt_91 : decode cX4_bowAt 91 = .ok (.isub, 1) := by decide +kernel
theorem dX4_bowAt_92 : decode cX4_bowAt 92 = .ok (.iand, 1) := by decide +kernel
theorem dX4_bowAt_93 : decode cX4_bowAt 93 = .ok (.ifCond .ne 7, 3) := by decide +kernel
theorem dX4_bowAt_96 : decode cX4_bowAt 96 = .ok (.iconst 1, 1) := by decide +kernel
theorem dX4_bowAt_97 : decode cX4_bowAt 97 = .ok (.goto 4, 3) := by decide +kernel
theorem dX4_bowAt_100 : decode cX4_bowAt 100 = .ok (.iconst 0, 1) := by decide +kernel
theorem dX4_bowAt_101 : decode cX4_bowAt 101 = .ok (.ireturn, 1) := by decide +kernel
set_option maxRecDepth 20000 in
theorem ggX4_nearestAtOrBelow_X4_startOfSearch : GoodIn wsX4_nearestAtOrBelow wsX4_startOfSearch := goodIn_r _ [4, 5, 6, 3, 7, 8, 9, 10, 11] (by decide +kernel) (by decide +kernel)
set_option maxRecDepth 20000 in
theorem gX4_nearestAtOrBelow_X4_startOfSearch : GoodIn wsX4_nearestAtOrBelow (va_wsS RX4 30 yX4_startOfSearch wsX4_startOfSearch) := goodIn_app (goodIn_of _ (by decide +kernel)) ggX4_nearestAtOrBelow_X4_startOfSearch
set_option maxRecDepth 20000 in
theorem ggX4_nearestAtOrBelow_X4_bowAt : GoodIn wsX4_nearestAtOrBelow wsX4_bowAt := goodIn_r _ [14, 15, 16, 3, 17, 5, 6, 7, 18, 19, 20, 21, 22, 23, 24, 25, 26] (by decide +kernel) (by decide +kernel)
set_option maxRecDepth 20000 in
theorem gX4_nearestAtOrBelow_X4_bowAt : GoodIn wsX4_nearestAtOrBelow (va_wsS RX4 33 yX4_bowAt wsX4_bowAt) := goodIn_app (goodIn_of _ (by decide +kernel)) ggX4_nearestAtOrBelow_X4_bowAt
theorem dX4_nearestAtOrBelow_0 : decode cX4_nearestAtOrBelow 0 = .ok (.iload_n 0, 1) := by decide +kernel
theorem dX4_nearestAtOrBelow_1 : decode cX4_nearestAtOrBelow 1 = .ok (.iload_n 1, 1) := by decide +kernel
theorem dX4_nearestAtOrBelow_2 : decode cX4_nearestAtOrBelow 2 = .ok (.invokestatic 30, 3) := by decide +kernel
theorem dX4_nearestAtOrBelow_5 : decode cX4_nearestAtOrBelow 5 = .ok (.istore_n 2, 1) := by decide +kernel
theorem dX4_nearestAtOrBelow_6 : decode cX4_nearestAtOrBelow 6 = .ok (.iload_n 2, 1) := by decide +kernel
theorem dX4_nearestAtOrBelow_7 : decode cX4_nearestAtOrBelow 7 = .ok (.iconst 1, 1) := by decide +kernel
theorem dX4_nearestAtOrBelow_8 : decode cX4_nearestAtOrBelow 8 = .ok (.if_icmp .lt 19, 3) := by decide +kernel
theorem dX4_nearestAtOrBelow_11 : decode cX4_nearestAtOrBelow 11 = .ok (.iload_n 0, 1) := by decide +kernel
theorem dX4_nearestAtOrBelow_12 : decode cX4_nearestAtOrBelow 12 = .ok (.iload_n 2, 1) := by decide +kernel
theorem dX4_nearestAtOrBelow_13 : decode cX4_nearestAtOrBelow 13 = .ok (.invokestatic 33, 3) := by decide +kernel
theorem dX4_nearestAtOrBelow_16 : decode cX4_nearestAtOrBelow 16 = .ok (.ifCond .eq 5, 3) := by decide +kernel
theorem dX4_nearestAtOrBelow_19 : decode cX4_nearestAtOrBelow 19 = .ok (.iload_n 2, 1) := by decide +kernel
theorem dX4_nearestAtOrBelow_20 : decode cX4_nearestAtOrBelow 20 = .ok (.ireturn, 1) := by decide +kernel
theorem dX4_nearestAtOrBelow_21 : decode cX4_nearestAtOrBelow 21 = .ok (.iinc 2 (-1), 3) := by decide +kernel
theorem dX4_nearestAtOrBelow_24 : decode cX4_nearestAtOrBelow 24 = .ok (.goto (-18), 3) := by decide +kernel
theorem dX4_nearestAtOrBelow_27 : decode cX4_nearestAtOrBelow 27 = .ok (.bipush (-6), 2) := by decide +kernel
theorem dX4_nearestAtOrBelow_29 : decode cX4_nearestAtOrBelow 29 = .ok (.ireturn, 1) := by decide +kernel
set_option maxRecDepth 20000 in
theorem ggX4_startOfSearch_X4_rootOf : GoodIn wsX4_startOfSearch wsX4_rootOf := goodIn_r _ [4] (by decide +kernel) (by decide +kernel)
set_option maxRecDepth 20000 in
theorem gX4_startOfSearch_X4_rootOf : GoodIn wsX4_startOfSearch (va_wsS RX4 15 yX4_rootOf wsX4_rootOf) := goodIn_app (goodIn_of _ (by decide +kernel)) ggX4_startOfSearch_X4_rootOf
set_option maxRecDepth 20000 in
theorem ggX4_startOfSearch_X4_greatestPowerUpTo : GoodIn wsX4_startOfSearch wsX4_greatestPowerUpTo := goodIn_r _ [7, 8] (by decide +kernel) (by decide +kernel)
set_option maxRecDepth 20000 in
theorem gX4_startOfSearch_X4_greatestPowerUpTo : GoodIn wsX4_startOfSearch (va_wsS RX4 36 yX4_greatestPowerUpTo wsX4_greatestPowerUpTo) := goodIn_app (goodIn_of _ (by decide +kernel)) ggX4_startOfSearch_X4_greatestPowerUpTo
theorem dX4_startOfSearch_0 : decode cX4_startOfSearch 0 = .ok (.iload_n 0, 1) := by decide +kernel
theorem dX4_startOfSearch_1 : decode cX4_startOfSearch 1 = .ok (.tableswitch 43 0 3 #[31, 33, 31, 31], 31) := by decide +kernel
theorem dX4_startOfSearch_32 : decode cX4_startOfSearch 32 = .ok (.iload_n 1, 1) := by decide +kernel
theorem dX4_startOfSearch_33 : decode cX4_startOfSearch 33 = .ok (.ireturn, 1) := by decide +kernel
theorem dX4_startOfSearch_34 : decode cX4_startOfSearch 34 = .ok (.iload_n 1, 1) := by decide +kernel
theorem dX4_startOfSearch_35 : decode cX4_startOfSearch 35 = .ok (.invokestatic 15, 3) := by decide +kernel
theorem dX4_startOfSearch_38 : decode cX4_startOfSearch 38 = .ok (.iload_n 1, 1) := by decide +kernel
theorem dX4_startOfSearch_39 : decode cX4_startOfSearch 39 = .ok (.invokestatic 15, 3) := by decide +kernel
theorem dX4_startOfSearch_42 : decode cX4_startOfSearch 42 = .ok (.imul, 1) := by decide +kernel
theorem dX4_startOfSearch_43 : decode cX4_startOfSearch 43 = .ok (.ireturn, 1) := by decide +kernel
theorem dX4_startOfSearch_44 : decode cX4_startOfSearch 44 = .ok (.iload_n 1, 1) := by decide +kernel
theorem dX4_startOfSearch_45 : decode cX4_startOfSearch 45 = .ok (.invokestatic 36, 3) := by decide +kernel
theorem dX4_startOfSearch_48 : decode cX4_startOfSearch 48 = .ok (.ireturn, 1) := by decide +kernel
set_option maxRecDepth 20000 in
theorem ggX4_countBetween_X4_markPrimes : GoodIn wsX4_countBetween wsX4_markPrimes := goodIn_r _ [6, 7, 8, 9, 10, 11, 12, 13, 14, 15] (by decide +kernel) (by decide +kernel)
set_option maxRecDepth 20000 in
theorem gX4_countBetween_X4_markPrimes : GoodIn wsX4_countBetween (va_wsS RX4 43 yX4_markPrimes wsX4_markPrimes) := goodIn_app (goodIn_of _ (by decide +kernel)) ggX4_countBetween_X4_markPrimes
set_option maxRecDepth 20000 in
theorem ggX4_countBetween_X4_countMarks : GoodIn wsX4_countBetween wsX4_countMarks := goodIn_r _ [18, 11, 19, 20, 21, 22, 23, 24, 25] (by decide +kernel) (by decide +kernel)
set_option maxRecDepth 20000 in
theorem gX4_countBetween_X4_countMarks : GoodIn wsX4_countBetween (va_wsS RX4 47 yX4_countMarks wsX4_countMarks) := goodIn_app (goodIn_of _ (by decide +kernel)) ggX4_countBetween_X4_countMarks
set_option maxRecDepth 20000 in
theorem ggX4_countBetween_X4_rootOf : GoodIn wsX4_countBetween wsX4_rootOf := goodIn_r _ [28] (by decide +kernel) (by decide +kernel)
set_option maxRecDepth 20000 in
theorem gX4_countBetween_X4_rootOf : GoodIn wsX4_countBetween (va_wsS RX4 15 yX4_rootOf wsX4_rootOf) := goodIn_app (goodIn_of _ (by decide +kernel)) ggX4_countBetween_X4_rootOf
set_option maxRecDepth 20000 in
theorem ggX4_countBetween_X4_countMirrored : GoodIn wsX4_countBetween wsX4_countMirrored := goodIn_r _ [31, 32, 33, 5, 34, 35, 36, 37] (by decide +kernel) (by decide +kernel)
set_option maxRecDepth 20000 in
theorem gX4_countBetween_X4_countMirrored : GoodIn wsX4_countBetween (va_wsS RX4 51 yX4_countMirrored wsX4_countMirrored) := goodIn_app (goodIn_of _ (by decide +kernel)) ggX4_countBetween_X4_countMirrored
set_option maxRecDepth 20000 in
theorem ggX4_countBetween_X4_markByDigitSum : GoodIn wsX4_countBetween wsX4_markByDigitSum := goodIn_r _ [40, 7, 10, 41, 42, 5, 43, 44, 45, 46] (by decide +kernel) (by decide +kernel)
set_option maxRecDepth 20000 in
theorem gX4_countBetween_X4_markByDigitSum : GoodIn wsX4_countBetween (va_wsS RX4 57 yX4_markByDigitSum wsX4_markByDigitSum) := goodIn_app (goodIn_of _ (by decide +kernel)) ggX4_countBetween_X4_markByDigitSum
set_option maxRecDepth 20000 in
theorem ggX4_countBetween_X4_countPowers : GoodIn wsX4_countBetween wsX4_countPowers := goodIn_r _ [49, 10, 35, 36, 37] (by decide +kernel) (by decide +kernel)
set_option maxRecDepth 20000 in
theorem gX4_countBetween_X4_countPowers : GoodIn wsX4_countBetween (va_wsS RX4 60 yX4_countPowers wsX4_countPowers) := goodIn_app (goodIn_of _ (by decide +kernel)) ggX4_countBetween_X4_countPowers
theorem dX4_countBetween_0 : decode cX4_countBetween 0 = .ok (.iload_n 1, 1) := by decide +kernel
theorem dX4_countBetween_1 : decode cX4_countBetween 1 = .ok (.tableswitch 97 0 3 #[31, 55, 67, 73], 31) := by decide +kernel
theorem dX4_countBetween_32 : decode cX4_countBetween 32 = .ok (.aload_n 0, 1) := by decide +kernel
theorem dX4_countBetween_33 : decode cX4_countBetween 33 = .ok (.getfield 39, 3) := by decide +kernel
theorem dX4_countBetween_36 : decode cX4_countBetween 36 = .ok (.ifnonnull 10, 3) := by decide +kernel
theorem dX4_countBetween_39 : decode cX4_countBetween 39 = .ok (.aload_n 0, 1) := by decide +kernel
theorem dX4_countBetween_40 : decode cX4_countBetween 40 = .ok (.invokestatic 43, 3) := by decide +kernel
theorem dX4_countBetween_43 : decode cX4_countBetween 43 = .ok (.putfield 39, 3) := by decide +kernel
theorem dX4_countBetween_46 : decode cX4_countBetween 46 = .ok (.aload_n 0, 1) := by decide +kernel
theorem dX4_countBetween_47 : decode cX4_countBetween 47 = .ok (.getfield 39, 3) := by decide +kernel
theorem dX4_countBetween_50 : decode cX4_countBetween 50 = .ok (.iload_n 2, 1) := by decide +kernel
theorem dX4_countBetween_51 : decode cX4_countBetween 51 = .ok (.iload_n 3, 1) := by decide +kernel
theorem dX4_countBetween_52 : decode cX4_countBetween 52 = .ok (.invokestatic 47, 3) := by decide +kernel
theorem dX4_countBetween_55 : decode cX4_countBetween 55 = .ok (.ireturn, 1) := by decide +kernel
theorem dX4_countBetween_56 : decode cX4_countBetween 56 = .ok (.iload_n 3, 1) := by decide +kernel
theorem dX4_countBetween_57 : decode cX4_countBetween 57 = .ok (.invokestatic 15, 3) := by decide +kernel
theorem dX4_countBetween_60 : decode cX4_countBetween 60 = .ok (.iload_n 2, 1) := by decide +kernel
theorem dX4_countBetween_61 : decode cX4_countBetween 61 = .ok (.iconst 1, 1) := by decide +kernel
theorem dX4_countBetween_62 : decode cX4_countBetween 62 = .ok (.isub, 1) := by decide +kernel
theorem dX4_countBetween_63 : decode cX4_countBetween 63 = .ok (.invokestatic 15, 3) := by decide +kernel
theorem dX4_countBetween_66 : decode cX4_countBetween 66 = .ok (.isub, 1) := by decide +kernel
theorem dX4_countBetween_67 : decode cX4_countBetween 67 = .ok (.ireturn, 1) := by decide +kernel
theorem dX4_countBetween_68 : decode cX4_countBetween 68 = .ok (.iload_n 2, 1) := by decide +kernel
theorem dX4_countBetween_69 : decode cX4_countBetween 69 = .ok (.iload_n 3, 1) := by decide +kernel
theorem dX4_countBetween_70 : decode cX4_countBetween 70 = .ok (.invokestatic 51, 3) := by decide +kernel
theorem dX4_countBetween_73 : decode cX4_countBetween 73 = .ok (.ireturn, 1) := by decide +kernel
theorem dX4_countBetween_74 : decode cX4_countBetween 74 = .ok (.aload_n 0, 1) := by decide +kernel
theorem dX4_countBetween_75 : decode cX4_countBetween 75 = .ok (.getfield 54, 3) := by decide +kernel
theorem dX4_countBetween_78 : decode cX4_countBetween 78 = .ok (.ifnonnull 10, 3) := by decide +kernel
theorem dX4_countBetween_81 : decode cX4_countBetween 81 = .ok (.aload_n 0, 1) := by decide +kernel
theorem dX4_countBetween_82 : decode cX4_countBetween 82 = .ok (.invokestatic 57, 3) := by decide +kernel
theorem dX4_countBetween_85 : decode cX4_countBetween 85 = .ok (.putfield 54, 3) := by decide +kernel
theorem dX4_countBetween_88 : decode cX4_countBetween 88 = .ok (.aload_n 0, 1) := by decide +kernel
theorem dX4_countBetween_89 : decode cX4_countBetween 89 = .ok (.getfield 54, 3) := by decide +kernel
theorem dX4_countBetween_92 : decode cX4_countBetween 92 = .ok (.iload_n 2, 1) := by decide +kernel
theorem dX4_countBetween_93 : decode cX4_countBetween 93 = .ok (.iload_n 3, 1) := by decide +kernel
theorem dX4_countBetween_94 : decode cX4_countBetween 94 = .ok (.invokestatic 47, 3) := by decide +kernel
theorem dX4_countBetween_97 : decode cX4_countBetween 97 = .ok (.ireturn, 1) := by decide +kernel
theorem dX4_countBetween_98 : decode cX4_countBetween 98 = .ok (.iload_n 2, 1) := by decide +kernel
theorem dX4_countBetween_99 : decode cX4_countBetween 99 = .ok (.iload_n 3, 1) := by decide +kernel
theorem dX4_countBetween_100 : decode cX4_countBetween 100 = .ok (.invokestatic 60, 3) := by decide +kernel
theorem dX4_countBetween_103 : decode cX4_countBetween 103 = .ok (.ireturn, 1) := by decide +kernel
set_option maxRecDepth 20000 in
theorem ggX4_markPrimes_J7_fill_d0a16 : GoodIn wsX4_markPrimes wsJ7_fill_d0a16 := goodIn_r _ [9] (by decide +kernel) (by decide +kernel)
set_option maxRecDepth 20000 in
theorem gX4_markPrimes_J7_fill_d0a16 : GoodIn wsX4_markPrimes (va_wsS RX4 65 yJ7_fill_d0a16 wsJ7_fill_d0a16) := goodIn_app (goodIn_of _ (by decide +kernel)) ggX4_markPrimes_J7_fill_d0a16
theorem dX4_markPrimes_0 : decode cX4_markPrimes 0 = .ok (.sipush 1563, 3) := by decide +kernel
theorem dX4_markPrimes_3 : decode cX4_markPrimes 3 = .ok (.newarray .long, 2) := by decide +kernel
theorem dX4_markPrimes_5 : decode cX4_markPrimes 5 = .ok (.astore_n 0, 1) := by decide +kernel
theorem dX4_markPrimes_6 : decode cX4_markPrimes 6 = .ok (.aload_n 0, 1) := by decide +kernel
theorem dX4_markPrimes_7 : decode cX4_markPrimes 7 = .ok (.ldc2_w 63, 3) := by decide +kernel
theorem dX4_markPrimes_10 : decode cX4_markPrimes 10 = .ok (.invokestatic 65, 3) := by decide +kernel
theorem dX4_markPrimes_13 : decode cX4_markPrimes 13 = .ok (.aload_n 0, 1) := by decide +kernel
theorem dX4_markPrimes_14 : decode cX4_markPrimes 14 = .ok (.iconst 0, 1) := by decide +kernel
theorem dX4_markPrimes_15 : decode cX4_markPrimes 15 = .ok (.ldc2_w 71, 3) := by decide +kernel
theorem dX4_markPrimes_18 : decode cX4_markPrimes 18 = .ok (.lastore, 1) := by decide +kernel
theorem dX4_markPrimes_19 : decode cX4_markPrimes 19 = .ok (.iconst 3, 1) := by decide +kernel
theorem dX4_markPrimes_20 : decode cX4_markPrimes 20 = .ok (.istore_n 1, 1) := by decide +kernel
theorem dX4_markPrimes_21 : decode cX4_markPrimes 21 = .ok (.iload_n 1, 1) := by decide +kernel
theorem dX4_markPrimes_22 : decode cX4_markPrimes 22 = .ok (.iload_n 1, 1) := by decide +kernel
theorem dX4_markPrimes_23 : decode cX4_markPrimes 23 = .ok (.imul, 1) := by decide +kernel
theorem dX4_markPrimes_24 : decode cX4_markPrimes 24 = .ok (.ldc 73, 2) := by decide +kernel
theorem dX4_markPrimes_26 : decode cX4_markPrimes 26 = .ok (.if_icmp .gt 68, 3) := by decide +kernel
theorem dX4_markPrimes_29 : decode cX4_markPrimes 29 = .ok (.aload_n 0, 1) := by decide +kernel
theorem dX4_markPrimes_30 : decode cX4_markPrimes 30 = .ok (.iload_n 1, 1) := by decide +kernel
theorem dX4_markPrimes_31 : decode cX4_markPrimes 31 = .ok (.bipush 6, 2) := by decide +kernel
theorem dX4_markPrimes_33 : decode cX4_markPrimes 33 = .ok (.ishr, 1) := by decide +kernel
theorem dX4_markPrimes_34 : decode cX4_markPrimes 34 = .ok (.laload, 1) := by decide +kernel
theorem dX4_markPrimes_35 : decode cX4_markPrimes 35 = .ok (.iload_n 1, 1) := by decide +kernel
theorem dX4_markPrimes_36 : decode cX4_markPrimes 36 = .ok (.bipush 63, 2) := by decide +kernel
theorem dX4_markPrimes_38 : decode cX4_markPrimes 38 = .ok (.iand, 1) := by decide +kernel
theorem dX4_markPrimes_39 : decode cX4_markPrimes 39 = .ok (.lushr, 1) := by decide +kernel
theorem dX4_markPrimes_40 : decode cX4_markPrimes 40 = .ok (.lconst 1, 1) := by decide +kernel
theorem dX4_markPrimes_41 : decode cX4_markPrimes 41 = .ok (.land, 1) := by decide +kernel
theorem dX4_markPrimes_42 : decode cX4_markPrimes 42 = .ok (.lconst 0, 1) := by decide +kernel
theorem dX4_markPrimes_43 : decode cX4_markPrimes 43 = .ok (.lcmp, 1) := by decide +kernel
theorem dX4_markPrimes_44 : decode cX4_markPrimes 44 = .ok (.ifCond .ne 6, 3) := by decide +kernel
theorem dX4_markPrimes_47 : decode cX4_markPrimes 47 = .ok (.goto 41, 3) := by decide +kernel
theorem dX4_markPrimes_50 : decode cX4_markPrimes 50 = .ok (.iload_n 1, 1) := by decide +kernel
theorem dX4_markPrimes_51 : decode cX4_markPrimes 51 = .ok (.iload_n 1, 1) := by decide +kernel
theorem dX4_markPrimes_52 : decode cX4_markPrimes 52 = .ok (.imul, 1) := by decide +kernel
theorem dX4_markPrimes_53 : decode cX4_markPrimes 53 = .ok (.istore_n 2, 1) := by decide +kernel
theorem dX4_markPrimes_54 : decode cX4_markPrimes 54 = .ok (.iload_n 2, 1) := by decide +kernel
theorem dX4_markPrimes_55 : decode cX4_markPrimes 55 = .ok (.ldc 73, 2) := by decide +kernel
theorem dX4_markPrimes_57 : decode cX4_markPrimes 57 = .ok (.if_icmp .gt 31, 3) := by decide +kernel
theorem dX4_markPrimes_60 : decode cX4_markPrimes 60 = .ok (.aload_n 0, 1) := by decide +kernel
theorem dX4_markPrimes_61 : decode cX4_markPrimes 61 = .ok (.iload_n 2, 1) := by decide +kernel
theorem dX4_markPrimes_62 : decode cX4_markPrimes 62 = .ok (.bipush 6, 2) := by decide +kernel
theorem dX4_markPrimes_64 : decode cX4_markPrimes 64 = .ok (.ishr, 1) := by decide +kernel
theorem dX4_markPrimes_65 : decode cX4_markPrimes 65 = .ok (.dup2, 1) := by decide +kernel
theorem dX4_markPrimes_66 : decode cX4_markPrimes 66 = .ok (.laload, 1) := by decide +kernel
theorem dX4_markPrimes_67 : decode cX4_markPrimes 67 = .ok (.lconst 1, 1) := by decide +kernel
theorem dX4_markPrimes_68 : decode cX4_markPrimes 68 = .ok (.iload_n 2, 1) := by decide +kernel
theorem dX4_markPrimes_69 : decode cX4_markPrimes 69 = .ok (.bipush 63, 2) := by decide +kernel
theorem dX4_markPrimes_71 : decode cX4_markPrimes 71 = .ok (.iand, 1) := by decide +kernel
theorem dX4_markPrimes_72 : decode cX4_markPrimes 72 = .ok (.lshl, 1) := by decide +kernel
theorem dX4_markPrimes_73 : decode cX4_markPrimes 73 = .ok (.ldc2_w 74, 3) := by decide +kernel
theorem dX4_markPrimes_76 : decode cX4_markPrimes 76 = .ok (.lxor, 1) := by decide +kernel
theorem dX4_markPrimes_77 : decode cX4_markPrimes 77 = .ok (.land, 1) := by decide +kernel
theorem dX4_markPrimes_78 : decode cX4_markPrimes 78 = .ok (.lastore, 1) := by decide +kernel
theorem dX4_markPrimes_79 : decode cX4_markPrimes 79 = .ok (.iload_n 2, 1) := by decide +kernel
theorem dX4_markPrimes_80 : decode cX4_markPrimes 80 = .ok (.iconst 2, 1) := by decide +kernel
theorem dX4_markPrimes_81 : decode cX4_markPrimes 81 = .ok (.iload_n 1, 1) := by decide +kernel
theorem dX4_markPrimes_82 : decode cX4_markPrimes 82 = .ok (.imul, 1) := by decide +kernel
theorem dX4_markPrimes_83 : decode cX4_markPrimes 83 = .ok (.iadd, 1) := by decide +kernel
theorem dX4_markPrimes_84 : decode cX4_markPrimes 84 = .ok (.istore_n 2, 1) := by decide +kernel
theorem dX4_markPrimes_85 : decode cX4_markPrimes 85 = .ok (.goto (-31), 3) := by decide +kernel
theorem dX4_markPrimes_88 : decode cX4_markPrimes 88 = .ok (.iinc 1 2, 3) := by decide +kernel
theorem dX4_markPrimes_91 : decode cX4_markPrimes 91 = .ok (.goto (-70), 3) := by decide +kernel
theorem dX4_markPrimes_94 : decode cX4_markPrimes 94 = .ok (.aload_n 0, 1) := by decide +kernel
theorem dX4_markPrimes_95 : decode cX4_markPrimes 95 = .ok (.areturn, 1) := by decide +kernel
set_option maxRecDepth 20000 in
theorem ggX4_markByDigitSum_X4_digitSum : GoodIn wsX4_markByDigitSum wsX4_digitSum := goodIn_r _ [6] (by decide +kernel) (by decide +kernel)
set_option maxRecDepth 20000 in
theorem gX4_markByDigitSum_X4_digitSum : GoodIn wsX4_markByDigitSum (va_wsS RX4 23 yX4_digitSum wsX4_digitSum) := goodIn_app (goodIn_of _ (by decide +kernel)) ggX4_markByDigitSum_X4_digitSum
set_option maxRecDepth 20000 in
theorem ggX4_markByDigitSum_X4_isMultipleOf : GoodIn wsX4_markByDigitSum wsX4_isMultipleOf := goodIn_r _ [9] (by decide +kernel) (by decide +kernel)
set_option maxRecDepth 20000 in
theorem gX4_markByDigitSum_X4_isMultipleOf : GoodIn wsX4_markByDigitSum (va_wsS RX4 26 yX4_isMultipleOf wsX4_isMultipleOf) := goodIn_app (goodIn_of _ (by decide +kernel)) ggX4_markByDigitSum_X4_isMultipleOf
theorem dX4_markByDigitSum_0 : decode cX4_markByDigitSum 0 = .ok (.sipush 1563, 3) := by decide +kernel
theorem dX4_markByDigitSum_3 : decode cX4_markByDigitSum 3 = .ok (.newarray .long, 2) := by decide +kernel
theorem dX4_markByDigitSum_5 : decode cX4_markByDigitSum 5 = .ok (.astore_n 0, 1) := by decide +kernel
theorem dX4_markByDigitSum_6 : decode cX4_markByDigitSum 6 = .ok (.iconst 0, 1) := by decide +kernel
theorem dX4_markByDigitSum_7 : decode cX4_markByDigitSum 7 = .ok (.istore_n 1, 1) := by decide +kernel
theorem dX4_markByDigitSum_8 : decode cX4_markByDigitSum 8 = .ok (.iload_n 1, 1) := by decide +kernel
theorem dX4_markByDigitSum_9 : decode cX4_markByDigitSum 9 = .ok (.ldc 73, 2) := by decide +kernel
theorem dX4_markByDigitSum_11 : decode cX4_markByDigitSum 11 = .ok (.if_icmp .gt 63, 3) := by decide +kernel
theorem dX4_markByDigitSum_14 : decode cX4_markByDigitSum 14 = .ok (.iload_n 1, 1) := by decide +kernel
theorem dX4_markByDigitSum_15 : decode cX4_markByDigitSum 15 = .ok (.invokestatic 23, 3) := by decide +kernel
theorem dX4_markByDigitSum_18 : decode cX4_markByDigitSum 18 = .ok (.istore_n 2, 1) := by decide +kernel
theorem dX4_markByDigitSum_19 : decode cX4_markByDigitSum 19 = .ok (.iload_n 1, 1) := by decide +kernel
theorem dX4_markByDigitSum_20 : decode cX4_markByDigitSum 20 = .ok (.istore_n 3, 1) := by decide +kernel
theorem dX4_markByDigitSum_21 : decode cX4_markByDigitSum 21 = .ok (.iload_n 3, 1) := by decide +kernel
theorem dX4_markByDigitSum_22 : decode cX4_markByDigitSum 22 = .ok (.iload_n 1, 1) := by decide +kernel
theorem dX4_markByDigitSum_23 : decode cX4_markByDigitSum 23 = .ok (.bipush 10, 2) := by decide +kernel
theorem dX4_markByDigitSum_25 : decode cX4_markByDigitSum 25 = .ok (.iadd, 1) := by decide +kernel
theorem dX4_markByDigitSum_26 : decode cX4_markByDigitSum 26 = .ok (.if_icmp .ge 42, 3) := by decide +kernel
theorem dX4_markByDigitSum_29 : decode cX4_markByDigitSum 29 = .ok (.iload_n 3, 1) := by decide +kernel
theorem dX4_markByDigitSum_30 : decode cX4_markByDigitSum 30 = .ok (.ldc 73, 2) := by decide +kernel
theorem dX4_markByDigitSum_32 : decode cX4_markByDigitSum 32 = .ok (.if_icmp .gt 36, 3) := by decide +kernel
theorem dX4_markByDigitSum_35 : decode cX4_markByDigitSum 35 = .ok (.iload_n 3, 1) := by decide +kernel
theorem dX4_markByDigitSum_36 : decode cX4_markByDigitSum 36 = .ok (.iload_n 2, 1) := by decide +kernel
theorem dX4_markByDigitSum_37 : decode cX4_markByDigitSum 37 = .ok (.iload_n 3, 1) := by decide +kernel
theorem dX4_markByDigitSum_38 : decode cX4_markByDigitSum 38 = .ok (.iadd, 1) := by decide +kernel
theorem dX4_markByDigitSum_39 : decode cX4_markByDigitSum 39 = .ok (.iload_n 1, 1) := by decide +kernel
theorem dX4_markByDigitSum_40 : decode cX4_markByDigitSum 40 = .ok (.isub, 1) := by decide +kernel
theorem dX4_markByDigitSum_41 : decode cX4_markByDigitSum 41 = .ok (.invokestatic 26, 3) := by decide +kernel
theorem dX4_markByDigitSum_44 : decode cX4_markByDigitSum 44 = .ok (.ifCond .eq 18, 3) := by decide +kernel
theorem dX4_markByDigitSum_47 : decode cX4_markByDigitSum 47 = .ok (.aload_n 0, 1) := by decide +kernel
theorem dX4_markByDigitSum_48 : decode cX4_markByDigitSum 48 = .ok (.iload_n 3, 1) := by decide +kernel
theorem dX4_markByDigitSum_49 : decode cX4_markByDigitSum 49 = .ok (.bipush 6, 2) := by decide +kernel
theorem dX4_markByDigitSum_51 : decode cX4_markByDigitSum 51 = .ok (.ishr, 1) := by decide +kernel
theorem dX4_markByDigitSum_52 : decode cX4_markByDigitSum 52 = .ok (.dup2, 1) := by decide +kernel
theorem dX4_markByDigitSum_53 : decode cX4_markByDigitSum 53 = .ok (.laload, 1) := by decide +kernel
theorem dX4_markByDigitSum_54 : decode cX4_markByDigitSum 54 = .ok (.lconst 1, 1) := by decide +kernel
theorem dX4_markByDigitSum_55 : decode cX4_markByDigitSum 55 = .ok (.iload_n 3, 1) := by decide +kernel
theorem dX4_markByDigitSum_56 : decode cX4_markByDigitSum 56 = .ok (.bipush 63, 2) := by decide +kernel
theorem dX4_markByDigitSum_58 : decode cX4_markByDigitSum 58 = .ok (.iand, 1) := by decide +kernel
theorem dX4_markByDigitSum_59 : decode cX4_markByDigitSum 59 = .ok (.lshl, 1) := by decide +kernel
theorem dX4_markByDigitSum_60 : decode cX4_markByDigitSum 60 = .ok (.lor, 1) := by decide +kernel
theorem dX4_markByDigitSum_61 : decode cX4_markByDigitSum 61 = .ok (.lastore, 1) := by decide +kernel
theorem dX4_markByDigitSum_62 : decode cX4_markByDigitSum 62 = .ok (.iinc 3 1, 3) := by decide +kernel
theorem dX4_markByDigitSum_65 : decode cX4_markByDigitSum 65 = .ok (.goto (-44), 3) := by decide +kernel
theorem dX4_markByDigitSum_68 : decode cX4_markByDigitSum 68 = .ok (.iinc 1 10, 3) := by decide +kernel
theorem dX4_markByDigitSum_71 : decode cX4_markByDigitSum 71 = .ok (.goto (-63), 3) := by decide +kernel
theorem dX4_markByDigitSum_74 : decode cX4_markByDigitSum 74 = .ok (.aload_n 0, 1) := by decide +kernel
theorem dX4_markByDigitSum_75 : decode cX4_markByDigitSum 75 = .ok (.areturn, 1) := by decide +kernel
set_option maxRecDepth 20000 in
theorem ggX4_countMarks_J13_bitCount_95d88 : GoodIn wsX4_countMarks wsJ13_bitCount_95d88 := goodIn_r _ [5, 6, 7, 8] (by decide +kernel) (by decide +kernel)
set_option maxRecDepth 20000 in
theorem gX4_countMarks_J13_bitCount_95d88 : GoodIn wsX4_countMarks (va_wsS RX4 76 yJ13_bitCount_95d88 wsJ13_bitCount_95d88) := goodIn_app (goodIn_of _ (by decide +kernel)) ggX4_countMarks_J13_bitCount_95d88
theorem dX4_countMarks_0 : decode cX4_countMarks 0 = .ok (.iload_n 1, 1) := by decide +kernel
theorem dX4_countMarks_1 : decode cX4_countMarks 1 = .ok (.bipush 6, 2) := by decide +kernel
theorem dX4_countMarks_3 : decode cX4_countMarks 3 = .ok (.ishr, 1) := by decide +kernel
theorem dX4_countMarks_4 : decode cX4_countMarks 4 = .ok (.istore_n 3, 1) := by decide +kernel
theorem dX4_countMarks_5 : decode cX4_countMarks 5 = .ok (.iload_n 2, 1) := by decide +kernel
theorem dX4_countMarks_6 : decode cX4_countMarks 6 = .ok (.bipush 6, 2) := by decide +kernel
theorem dX4_countMarks_8 : decode cX4_countMarks 8 = .ok (.ishr, 1) := by decide +kernel
theorem dX4_countMarks_9 : decode cX4_countMarks 9 = .ok (.istore 4, 2) := by decide +kernel
theorem dX4_countMarks_11 : decode cX4_countMarks 11 = .ok (.iconst 0, 1) := by decide +kernel
theorem dX4_countMarks_12 : decode cX4_countMarks 12 = .ok (.istore 5, 2) := by decide +kernel
theorem dX4_countMarks_14 : decode cX4_countMarks 14 = .ok (.iload_n 3, 1) := by decide +kernel
theorem dX4_countMarks_15 : decode cX4_countMarks 15 = .ok (.istore 6, 2) := by decide +kernel
theorem dX4_countMarks_17 : decode cX4_countMarks 17 = .ok (.iload 6, 2) := by decide +kernel
theorem dX4_countMarks_19 : decode cX4_countMarks 19 = .ok (.iload 4, 2) := by decide +kernel
theorem dX4_countMarks_21 : decode cX4_countMarks 21 = .ok (.if_icmp .gt 74, 3) := by decide +kernel
theorem dX4_countMarks_24 : decode cX4_countMarks 24 = .ok (.iload 6, 2) := by decide +kernel
theorem dX4_countMarks_26 : decode cX4_countMarks 26 = .ok (.aload_n 0, 1) := by decide +kernel
theorem dX4_countMarks_27 : decode cX4_countMarks 27 = .ok (.arraylength, 1) := by decide +kernel
theorem dX4_countMarks_28 : decode cX4_countMarks 28 = .ok (.if_icmp .ge 67, 3) := by decide +kernel
theorem dX4_countMarks_31 : decode cX4_countMarks 31 = .ok (.aload_n 0, 1) := by decide +kernel
theorem dX4_countMarks_32 : decode cX4_countMarks 32 = .ok (.iload 6, 2) := by decide +kernel
theorem dX4_countMarks_34 : decode cX4_countMarks 34 = .ok (.laload, 1) := by decide +kernel
theorem dX4_countMarks_35 : decode cX4_countMarks 35 = .ok (.lstore 7, 2) := by decide +kernel
theorem dX4_countMarks_37 : decode cX4_countMarks 37 = .ok (.iload 6, 2) := by decide +kernel
theorem dX4_countMarks_39 : decode cX4_countMarks 39 = .ok (.iload_n 3, 1) := by decide +kernel
theorem dX4_countMarks_40 : decode cX4_countMarks 40 = .ok (.if_icmp .ne 16, 3) := by decide +kernel
theorem dX4_countMarks_43 : decode cX4_countMarks 43 = .ok (.lload 7, 2) := by decide +kernel
theorem dX4_countMarks_45 : decode cX4_countMarks 45 = .ok (.ldc2_w 74, 3) := by decide +kernel
theorem dX4_countMarks_48 : decode cX4_countMarks 48 = .ok (.iload_n 1, 1) := by decide +kernel
theorem dX4_countMarks_49 : decode cX4_countMarks 49 = .ok (.bipush 63, 2) := by decide +kernel
theorem dX4_countMarks_51 : decode cX4_countMarks 51 = .ok (.iand, 1) := by decide +kernel
theorem dX4_countMarks_52 : decode cX4_countMarks 52 = .ok (.lshl, 1) := by decide +kernel
theorem dX4_countMarks_53 : decode cX4_countMarks 53 = .ok (.land, 1) := by decide +kernel
