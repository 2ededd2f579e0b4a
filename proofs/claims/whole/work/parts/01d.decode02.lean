theorem dX4_countMarks_54 : decode cX4_countMarks 54 = .ok (.lstore 7, 2) := by decide +kernel
theorem dX4_countMarks_56 : decode cX4_countMarks 56 = .ok (.iload 6, 2) := by decide +kernel
theorem dX4_countMarks_58 : decode cX4_countMarks 58 = .ok (.iload 4, 2) := by decide +kernel
theorem dX4_countMarks_60 : decode cX4_countMarks 60 = .ok (.if_icmp .ne 19, 3) := by decide +kernel
theorem dX4_countMarks_63 : decode cX4_countMarks 63 = .ok (.lload 7, 2) := by decide +kernel
theorem dX4_countMarks_65 : decode cX4_countMarks 65 = .ok (.ldc2_w 74, 3) := by decide +kernel
theorem dX4_countMarks_68 : decode cX4_countMarks 68 = .ok (.bipush 63, 2) := by decide +kernel
theorem dX4_countMarks_70 : decode cX4_countMarks 70 = .ok (.iload_n 2, 1) := by decide +kernel
theorem dX4_countMarks_71 : decode cX4_countMarks 71 = .ok (.bipush 63, 2) := by decide +kernel
theorem dX4_countMarks_73 : decode cX4_countMarks 73 = .ok (.iand, 1) := by decide +kernel
theorem dX4_countMarks_74 : decode cX4_countMarks 74 = .ok (.isub, 1) := by decide +kernel
theorem dX4_countMarks_75 : decode cX4_countMarks 75 = .ok (.lushr, 1) := by decide +kernel
theorem dX4_countMarks_76 : decode cX4_countMarks 76 = .ok (.land, 1) := by decide +kernel
theorem dX4_countMarks_77 : decode cX4_countMarks 77 = .ok (.lstore 7, 2) := by decide +kernel
theorem dX4_countMarks_79 : decode cX4_countMarks 79 = .ok (.iload 5, 2) := by decide +kernel
theorem dX4_countMarks_81 : decode cX4_countMarks 81 = .ok (.lload 7, 2) := by decide +kernel
theorem dX4_countMarks_83 : decode cX4_countMarks 83 = .ok (.invokestatic 76, 3) := by decide +kernel
theorem dX4_countMarks_86 : decode cX4_countMarks 86 = .ok (.iadd, 1) := by decide +kernel
theorem dX4_countMarks_87 : decode cX4_countMarks 87 = .ok (.istore 5, 2) := by decide +kernel
theorem dX4_countMarks_89 : decode cX4_countMarks 89 = .ok (.iinc 6 1, 3) := by decide +kernel
theorem dX4_countMarks_92 : decode cX4_countMarks 92 = .ok (.goto (-75), 3) := by decide +kernel
theorem dX4_countMarks_95 : decode cX4_countMarks 95 = .ok (.iload 5, 2) := by decide +kernel
theorem dX4_countMarks_97 : decode cX4_countMarks 97 = .ok (.ireturn, 1) := by decide +kernel
set_option maxRecDepth 20000 in
theorem ggX4_countMirrored_X4_withMirrored : GoodIn wsX4_countMirrored wsX4_withMirrored := goodIn_r _ [4] (by decide +kernel) (by decide +kernel)
set_option maxRecDepth 20000 in
theorem gX4_countMirrored_X4_withMirrored : GoodIn wsX4_countMirrored (va_wsS RX4 19 yX4_withMirrored wsX4_withMirrored) := goodIn_app (goodIn_of _ (by decide +kernel)) ggX4_countMirrored_X4_withMirrored
set_option maxRecDepth 20000 in
theorem ggX4_countMirrored_X9_isWithin : GoodIn wsX4_countMirrored wsX9_isWithin := goodIn_r _ [7] (by decide +kernel) (by decide +kernel)
set_option maxRecDepth 20000 in
theorem gX4_countMirrored_X9_isWithin_n82 : GoodIn wsX4_countMirrored (wsX9_isWithin) := ggX4_countMirrored_X9_isWithin
theorem dX4_countMirrored_0 : decode cX4_countMirrored 0 = .ok (.iconst 0, 1) := by decide +kernel
theorem dX4_countMirrored_1 : decode cX4_countMirrored 1 = .ok (.istore_n 2, 1) := by decide +kernel
theorem dX4_countMirrored_2 : decode cX4_countMirrored 2 = .ok (.iconst 1, 1) := by decide +kernel
theorem dX4_countMirrored_3 : decode cX4_countMirrored 3 = .ok (.istore_n 3, 1) := by decide +kernel
theorem dX4_countMirrored_4 : decode cX4_countMirrored 4 = .ok (.iload_n 3, 1) := by decide +kernel
theorem dX4_countMirrored_5 : decode cX4_countMirrored 5 = .ok (.sipush 999, 3) := by decide +kernel
theorem dX4_countMirrored_8 : decode cX4_countMirrored 8 = .ok (.if_icmp .gt 44, 3) := by decide +kernel
theorem dX4_countMirrored_11 : decode cX4_countMirrored 11 = .ok (.iload_n 3, 1) := by decide +kernel
theorem dX4_countMirrored_12 : decode cX4_countMirrored 12 = .ok (.iload_n 3, 1) := by decide +kernel
theorem dX4_countMirrored_13 : decode cX4_countMirrored 13 = .ok (.invokestatic 19, 3) := by decide +kernel
theorem dX4_countMirrored_16 : decode cX4_countMirrored 16 = .ok (.iload_n 0, 1) := by decide +kernel
theorem dX4_countMirrored_17 : decode cX4_countMirrored 17 = .ok (.iload_n 1, 1) := by decide +kernel
theorem dX4_countMirrored_18 : decode cX4_countMirrored 18 = .ok (.invokestatic 82, 3) := by decide +kernel
theorem dX4_countMirrored_21 : decode cX4_countMirrored 21 = .ok (.ifCond .eq 6, 3) := by decide +kernel
theorem dX4_countMirrored_24 : decode cX4_countMirrored 24 = .ok (.iinc 2 1, 3) := by decide +kernel
theorem dX4_countMirrored_27 : decode cX4_countMirrored 27 = .ok (.iload_n 3, 1) := by decide +kernel
theorem dX4_countMirrored_28 : decode cX4_countMirrored 28 = .ok (.iload_n 3, 1) := by decide +kernel
theorem dX4_countMirrored_29 : decode cX4_countMirrored 29 = .ok (.bipush 10, 2) := by decide +kernel
theorem dX4_countMirrored_31 : decode cX4_countMirrored 31 = .ok (.idiv, 1) := by decide +kernel
theorem dX4_countMirrored_32 : decode cX4_countMirrored 32 = .ok (.invokestatic 19, 3) := by decide +kernel
theorem dX4_countMirrored_35 : decode cX4_countMirrored 35 = .ok (.iload_n 0, 1) := by decide +kernel
theorem dX4_countMirrored_36 : decode cX4_countMirrored 36 = .ok (.iload_n 1, 1) := by decide +kernel
theorem dX4_countMirrored_37 : decode cX4_countMirrored 37 = .ok (.invokestatic 82, 3) := by decide +kernel
theorem dX4_countMirrored_40 : decode cX4_countMirrored 40 = .ok (.ifCond .eq 6, 3) := by decide +kernel
theorem dX4_countMirrored_43 : decode cX4_countMirrored 43 = .ok (.iinc 2 1, 3) := by decide +kernel
theorem dX4_countMirrored_46 : decode cX4_countMirrored 46 = .ok (.iinc 3 1, 3) := by decide +kernel
theorem dX4_countMirrored_49 : decode cX4_countMirrored 49 = .ok (.goto (-45), 3) := by decide +kernel
theorem dX4_countMirrored_52 : decode cX4_countMirrored 52 = .ok (.iload_n 2, 1) := by decide +kernel
theorem dX4_countMirrored_53 : decode cX4_countMirrored 53 = .ok (.ireturn, 1) := by decide +kernel
set_option maxRecDepth 20000 in
theorem ggX4_countPowers_X9_isWithin : GoodIn wsX4_countPowers wsX9_isWithin := goodIn_r _ [4] (by decide +kernel) (by decide +kernel)
set_option maxRecDepth 20000 in
theorem gX4_countPowers_X9_isWithin_n82 : GoodIn wsX4_countPowers (wsX9_isWithin) := ggX4_countPowers_X9_isWithin
theorem dX4_countPowers_0 : decode cX4_countPowers 0 = .ok (.iconst 0, 1) := by decide +kernel
theorem dX4_countPowers_1 : decode cX4_countPowers 1 = .ok (.istore_n 2, 1) := by decide +kernel
theorem dX4_countPowers_2 : decode cX4_countPowers 2 = .ok (.iconst 1, 1) := by decide +kernel
theorem dX4_countPowers_3 : decode cX4_countPowers 3 = .ok (.istore_n 3, 1) := by decide +kernel
theorem dX4_countPowers_4 : decode cX4_countPowers 4 = .ok (.iload_n 3, 1) := by decide +kernel
theorem dX4_countPowers_5 : decode cX4_countPowers 5 = .ok (.ldc 73, 2) := by decide +kernel
theorem dX4_countPowers_7 : decode cX4_countPowers 7 = .ok (.if_icmp .gt 22, 3) := by decide +kernel
theorem dX4_countPowers_10 : decode cX4_countPowers 10 = .ok (.iload_n 3, 1) := by decide +kernel
theorem dX4_countPowers_11 : decode cX4_countPowers 11 = .ok (.iload_n 0, 1) := by decide +kernel
theorem dX4_countPowers_12 : decode cX4_countPowers 12 = .ok (.iload_n 1, 1) := by decide +kernel
theorem dX4_countPowers_13 : decode cX4_countPowers 13 = .ok (.invokestatic 82, 3) := by decide +kernel
theorem dX4_countPowers_16 : decode cX4_countPowers 16 = .ok (.ifCond .eq 6, 3) := by decide +kernel
theorem dX4_countPowers_19 : decode cX4_countPowers 19 = .ok (.iinc 2 1, 3) := by decide +kernel
theorem dX4_countPowers_22 : decode cX4_countPowers 22 = .ok (.iload_n 3, 1) := by decide +kernel
theorem dX4_countPowers_23 : decode cX4_countPowers 23 = .ok (.iconst 2, 1) := by decide +kernel
theorem dX4_countPowers_24 : decode cX4_countPowers 24 = .ok (.imul, 1) := by decide +kernel
theorem dX4_countPowers_25 : decode cX4_countPowers 25 = .ok (.istore_n 3, 1) := by decide +kernel
theorem dX4_countPowers_26 : decode cX4_countPowers 26 = .ok (.goto (-22), 3) := by decide +kernel
theorem dX4_countPowers_29 : decode cX4_countPowers 29 = .ok (.iload_n 2, 1) := by decide +kernel
theorem dX4_countPowers_30 : decode cX4_countPowers 30 = .ok (.ireturn, 1) := by decide +kernel
theorem dX4_greatestPowerUpTo_0 : decode cX4_greatestPowerUpTo 0 = .ok (.iconst 0, 1) := by decide +kernel
theorem dX4_greatestPowerUpTo_1 : decode cX4_greatestPowerUpTo 1 = .ok (.istore_n 1, 1) := by decide +kernel
theorem dX4_greatestPowerUpTo_2 : decode cX4_greatestPowerUpTo 2 = .ok (.iconst 1, 1) := by decide +kernel
theorem dX4_greatestPowerUpTo_3 : decode cX4_greatestPowerUpTo 3 = .ok (.istore_n 2, 1) := by decide +kernel
theorem dX4_greatestPowerUpTo_4 : decode cX4_greatestPowerUpTo 4 = .ok (.iload_n 2, 1) := by decide +kernel
theorem dX4_greatestPowerUpTo_5 : decode cX4_greatestPowerUpTo 5 = .ok (.ldc 86, 2) := by decide +kernel
theorem dX4_greatestPowerUpTo_7 : decode cX4_greatestPowerUpTo 7 = .ok (.if_icmp .gt 21, 3) := by decide +kernel
theorem dX4_greatestPowerUpTo_10 : decode cX4_greatestPowerUpTo 10 = .ok (.iload_n 2, 1) := by decide +kernel
theorem dX4_greatestPowerUpTo_11 : decode cX4_greatestPowerUpTo 11 = .ok (.iload_n 0, 1) := by decide +kernel
theorem dX4_greatestPowerUpTo_12 : decode cX4_greatestPowerUpTo 12 = .ok (.if_icmp .gt 7, 3) := by decide +kernel
theorem dX4_greatestPowerUpTo_15 : decode cX4_greatestPowerUpTo 15 = .ok (.iload_n 2, 1) := by decide +kernel
theorem dX4_greatestPowerUpTo_16 : decode cX4_greatestPowerUpTo 16 = .ok (.goto 4, 3) := by decide +kernel
theorem dX4_greatestPowerUpTo_19 : decode cX4_greatestPowerUpTo 19 = .ok (.iload_n 1, 1) := by decide +kernel
theorem dX4_greatestPowerUpTo_20 : decode cX4_greatestPowerUpTo 20 = .ok (.istore_n 1, 1) := by decide +kernel
theorem dX4_greatestPowerUpTo_21 : decode cX4_greatestPowerUpTo 21 = .ok (.iload_n 2, 1) := by decide +kernel
theorem dX4_greatestPowerUpTo_22 : decode cX4_greatestPowerUpTo 22 = .ok (.iconst 2, 1) := by decide +kernel
theorem dX4_greatestPowerUpTo_23 : decode cX4_greatestPowerUpTo 23 = .ok (.imul, 1) := by decide +kernel
theorem dX4_greatestPowerUpTo_24 : decode cX4_greatestPowerUpTo 24 = .ok (.istore_n 2, 1) := by decide +kernel
theorem dX4_greatestPowerUpTo_25 : decode cX4_greatestPowerUpTo 25 = .ok (.goto (-21), 3) := by decide +kernel
theorem dX4_greatestPowerUpTo_28 : decode cX4_greatestPowerUpTo 28 = .ok (.iload_n 1, 1) := by decide +kernel
theorem dX4_greatestPowerUpTo_29 : decode cX4_greatestPowerUpTo 29 = .ok (.ireturn, 1) := by decide +kernel
theorem dX4_isPrime_0 : decode cX4_isPrime 0 = .ok (.iload_n 0, 1) := by decide +kernel
theorem dX4_isPrime_1 : decode cX4_isPrime 1 = .ok (.iconst 4, 1) := by decide +kernel
theorem dX4_isPrime_2 : decode cX4_isPrime 2 = .ok (.if_icmp .ge 14, 3) := by decide +kernel
theorem dX4_isPrime_5 : decode cX4_isPrime 5 = .ok (.iload_n 0, 1) := by decide +kernel
theorem dX4_isPrime_6 : decode cX4_isPrime 6 = .ok (.iconst 1, 1) := by decide +kernel
theorem dX4_isPrime_7 : decode cX4_isPrime 7 = .ok (.if_icmp .le 7, 3) := by decide +kernel
theorem dX4_isPrime_10 : decode cX4_isPrime 10 = .ok (.iconst 1, 1) := by decide +kernel
theorem dX4_isPrime_11 : decode cX4_isPrime 11 = .ok (.goto 4, 3) := by decide +kernel
theorem dX4_isPrime_14 : decode cX4_isPrime 14 = .ok (.iconst 0, 1) := by decide +kernel
theorem dX4_isPrime_15 : decode cX4_isPrime 15 = .ok (.ireturn, 1) := by decide +kernel
theorem dX4_isPrime_16 : decode cX4_isPrime 16 = .ok (.iload_n 0, 1) := by decide +kernel
theorem dX4_isPrime_17 : decode cX4_isPrime 17 = .ok (.iconst 2, 1) := by decide +kernel
theorem dX4_isPrime_18 : decode cX4_isPrime 18 = .ok (.irem, 1) := by decide +kernel
theorem dX4_isPrime_19 : decode cX4_isPrime 19 = .ok (.ifCond .eq 9, 3) := by decide +kernel
theorem dX4_isPrime_22 : decode cX4_isPrime 22 = .ok (.iload_n 0, 1) := by decide +kernel
theorem dX4_isPrime_23 : decode cX4_isPrime 23 = .ok (.iconst 3, 1) := by decide +kernel
theorem dX4_isPrime_24 : decode cX4_isPrime 24 = .ok (.irem, 1) := by decide +kernel
theorem dX4_isPrime_25 : decode cX4_isPrime 25 = .ok (.ifCond .ne 5, 3) := by decide +kernel
theorem dX4_isPrime_28 : decode cX4_isPrime 28 = .ok (.iconst 0, 1) := by decide +kernel
theorem dX4_isPrime_29 : decode cX4_isPrime 29 = .ok (.ireturn, 1) := by decide +kernel
theorem dX4_isPrime_30 : decode cX4_isPrime 30 = .ok (.iconst 5, 1) := by decide +kernel
theorem dX4_isPrime_31 : decode cX4_isPrime 31 = .ok (.istore_n 1, 1) := by decide +kernel
theorem dX4_isPrime_32 : decode cX4_isPrime 32 = .ok (.iload_n 1, 1) := by decide +kernel
theorem dX4_isPrime_33 : decode cX4_isPrime 33 = .ok (.iload_n 1, 1) := by decide +kernel
theorem dX4_isPrime_34 : decode cX4_isPrime 34 = .ok (.imul, 1) := by decide +kernel
theorem dX4_isPrime_35 : decode cX4_isPrime 35 = .ok (.iload_n 0, 1) := by decide +kernel
theorem dX4_isPrime_36 : decode cX4_isPrime 36 = .ok (.if_icmp .gt 25, 3) := by decide +kernel
theorem dX4_isPrime_39 : decode cX4_isPrime 39 = .ok (.iload_n 0, 1) := by decide +kernel
theorem dX4_isPrime_40 : decode cX4_isPrime 40 = .ok (.iload_n 1, 1) := by decide +kernel
theorem dX4_isPrime_41 : decode cX4_isPrime 41 = .ok (.irem, 1) := by decide +kernel
theorem dX4_isPrime_42 : decode cX4_isPrime 42 = .ok (.ifCond .eq 11, 3) := by decide +kernel
theorem dX4_isPrime_45 : decode cX4_isPrime 45 = .ok (.iload_n 0, 1) := by decide +kernel
theorem dX4_isPrime_46 : decode cX4_isPrime 46 = .ok (.iload_n 1, 1) := by decide +kernel
theorem dX4_isPrime_47 : decode cX4_isPrime 47 = .ok (.iconst 2, 1) := by decide +kernel
theorem dX4_isPrime_48 : decode cX4_isPrime 48 = .ok (.iadd, 1) := by decide +kernel
theorem dX4_isPrime_49 : decode cX4_isPrime 49 = .ok (.irem, 1) := by decide +kernel
theorem dX4_isPrime_50 : decode cX4_isPrime 50 = .ok (.ifCond .ne 5, 3) := by decide +kernel
theorem dX4_isPrime_53 : decode cX4_isPrime 53 = .ok (.iconst 0, 1) := by decide +kernel
theorem dX4_isPrime_54 : decode cX4_isPrime 54 = .ok (.ireturn, 1) := by decide +kernel
theorem dX4_isPrime_55 : decode cX4_isPrime 55 = .ok (.iinc 1 6, 3) := by decide +kernel
theorem dX4_isPrime_58 : decode cX4_isPrime 58 = .ok (.goto (-26), 3) := by decide +kernel
theorem dX4_isPrime_61 : decode cX4_isPrime 61 = .ok (.iconst 1, 1) := by decide +kernel
theorem dX4_isPrime_62 : decode cX4_isPrime 62 = .ok (.ireturn, 1) := by decide +kernel
theorem dX4_rootOf_0 : decode cX4_rootOf 0 = .ok (.iconst 0, 1) := by decide +kernel
theorem dX4_rootOf_1 : decode cX4_rootOf 1 = .ok (.istore_n 1, 1) := by decide +kernel
theorem dX4_rootOf_2 : decode cX4_rootOf 2 = .ok (.sipush 512, 3) := by decide +kernel
theorem dX4_rootOf_5 : decode cX4_rootOf 5 = .ok (.istore_n 2, 1) := by decide +kernel
theorem dX4_rootOf_6 : decode cX4_rootOf 6 = .ok (.iload_n 2, 1) := by decide +kernel
theorem dX4_rootOf_7 : decode cX4_rootOf 7 = .ok (.ifCond .le 25, 3) := by decide +kernel
theorem dX4_rootOf_10 : decode cX4_rootOf 10 = .ok (.iload_n 1, 1) := by decide +kernel
theorem dX4_rootOf_11 : decode cX4_rootOf 11 = .ok (.iload_n 2, 1) := by decide +kernel
theorem dX4_rootOf_12 : decode cX4_rootOf 12 = .ok (.iadd, 1) := by decide +kernel
theorem dX4_rootOf_13 : decode cX4_rootOf 13 = .ok (.iload_n 1, 1) := by decide +kernel
theorem dX4_rootOf_14 : decode cX4_rootOf 14 = .ok (.iload_n 2, 1) := by decide +kernel
theorem dX4_rootOf_15 : decode cX4_rootOf 15 = .ok (.iadd, 1) := by decide +kernel
theorem dX4_rootOf_16 : decode cX4_rootOf 16 = .ok (.imul, 1) := by decide +kernel
theorem dX4_rootOf_17 : decode cX4_rootOf 17 = .ok (.iload_n 0, 1) := by decide +kernel
theorem dX4_rootOf_18 : decode cX4_rootOf 18 = .ok (.if_icmp .gt 7, 3) := by decide +kernel
theorem dX4_rootOf_21 : decode cX4_rootOf 21 = .ok (.iload_n 1, 1) := by decide +kernel
theorem dX4_rootOf_22 : decode cX4_rootOf 22 = .ok (.iload_n 2, 1) := by decide +kernel
theorem dX4_rootOf_23 : decode cX4_rootOf 23 = .ok (.iadd, 1) := by decide +kernel
theorem dX4_rootOf_24 : decode cX4_rootOf 24 = .ok (.istore_n 1, 1) := by decide +kernel
theorem dX4_rootOf_25 : decode cX4_rootOf 25 = .ok (.iload_n 2, 1) := by decide +kernel
theorem dX4_rootOf_26 : decode cX4_rootOf 26 = .ok (.iconst 2, 1) := by decide +kernel
theorem dX4_rootOf_27 : decode cX4_rootOf 27 = .ok (.idiv, 1) := by decide +kernel
theorem dX4_rootOf_28 : decode cX4_rootOf 28 = .ok (.istore_n 2, 1) := by decide +kernel
theorem dX4_rootOf_29 : decode cX4_rootOf 29 = .ok (.goto (-23), 3) := by decide +kernel
theorem dX4_rootOf_32 : decode cX4_rootOf 32 = .ok (.iload_n 1, 1) := by decide +kernel
theorem dX4_rootOf_33 : decode cX4_rootOf 33 = .ok (.ireturn, 1) := by decide +kernel
theorem dX4_withMirrored_0 : decode cX4_withMirrored 0 = .ok (.iload_n 0, 1) := by decide +kernel
theorem dX4_withMirrored_1 : decode cX4_withMirrored 1 = .ok (.istore_n 2, 1) := by decide +kernel
theorem dX4_withMirrored_2 : decode cX4_withMirrored 2 = .ok (.iload_n 1, 1) := by decide +kernel
theorem dX4_withMirrored_3 : decode cX4_withMirrored 3 = .ok (.istore_n 3, 1) := by decide +kernel
theorem dX4_withMirrored_4 : decode cX4_withMirrored 4 = .ok (.iload_n 3, 1) := by decide +kernel
theorem dX4_withMirrored_5 : decode cX4_withMirrored 5 = .ok (.ifCond .le 21, 3) := by decide +kernel
theorem dX4_withMirrored_8 : decode cX4_withMirrored 8 = .ok (.bipush 10, 2) := by decide +kernel
theorem dX4_withMirrored_10 : decode cX4_withMirrored 10 = .ok (.iload_n 2, 1) := by decide +kernel
theorem dX4_withMirrored_11 : decode cX4_withMirrored 11 = .ok (.imul, 1) := by decide +kernel
theorem dX4_withMirrored_12 : decode cX4_withMirrored 12 = .ok (.iload_n 3, 1) := by decide +kernel
theorem dX4_withMirrored_13 : decode cX4_withMirrored 13 = .ok (.bipush 10, 2) := by decide +kernel
theorem dX4_withMirrored_15 : decode cX4_withMirrored 15 = .ok (.irem, 1) := by decide +kernel
theorem dX4_withMirrored_16 : decode cX4_withMirrored 16 = .ok (.iadd, 1) := by decide +kernel
theorem dX4_withMirrored_17 : decode cX4_withMirrored 17 = .ok (.istore_n 2, 1) := by decide +kernel
theorem dX4_withMirrored_18 : decode cX4_withMirrored 18 = .ok (.iload_n 3, 1) := by decide +kernel
theorem dX4_withMirrored_19 : decode cX4_withMirrored 19 = .ok (.bipush 10, 2) := by decide +kernel
theorem dX4_withMirrored_21 : decode cX4_withMirrored 21 = .ok (.idiv, 1) := by decide +kernel
theorem dX4_withMirrored_22 : decode cX4_withMirrored 22 = .ok (.istore_n 3, 1) := by decide +kernel
theorem dX4_withMirrored_23 : decode cX4_withMirrored 23 = .ok (.goto (-19), 3) := by decide +kernel
theorem dX4_withMirrored_26 : decode cX4_withMirrored 26 = .ok (.iload_n 2, 1) := by decide +kernel
theorem dX4_withMirrored_27 : decode cX4_withMirrored 27 = .ok (.ireturn, 1) := by decide +kernel
theorem dX4_digitSum_0 : decode cX4_digitSum 0 = .ok (.iconst 0, 1) := by decide +kernel
theorem dX4_digitSum_1 : decode cX4_digitSum 1 = .ok (.istore_n 1, 1) := by decide +kernel
theorem dX4_digitSum_2 : decode cX4_digitSum 2 = .ok (.iload_n 0, 1) := by decide +kernel
theorem dX4_digitSum_3 : decode cX4_digitSum 3 = .ok (.istore_n 2, 1) := by decide +kernel
theorem dX4_digitSum_4 : decode cX4_digitSum 4 = .ok (.iload_n 2, 1) := by decide +kernel
theorem dX4_digitSum_5 : decode cX4_digitSum 5 = .ok (.ifCond .le 18, 3) := by decide +kernel
theorem dX4_digitSum_8 : decode cX4_digitSum 8 = .ok (.iload_n 1, 1) := by decide +kernel
theorem dX4_digitSum_9 : decode cX4_digitSum 9 = .ok (.iload_n 2, 1) := by decide +kernel
theorem dX4_digitSum_10 : decode cX4_digitSum 10 = .ok (.bipush 10, 2) := by decide +kernel
theorem dX4_digitSum_12 : decode cX4_digitSum 12 = .ok (.irem, 1) := by decide +kernel
theorem dX4_digitSum_13 : decode cX4_digitSum 13 = .ok (.iadd, 1) := by decide +kernel
theorem dX4_digitSum_14 : decode cX4_digitSum 14 = .ok (.istore_n 1, 1) := by decide +kernel
theorem dX4_digitSum_15 : decode cX4_digitSum 15 = .ok (.iload_n 2, 1) := by decide +kernel
theorem dX4_digitSum_16 : decode cX4_digitSum 16 = .ok (.bipush 10, 2) := by decide +kernel
theorem dX4_digitSum_18 : decode cX4_digitSum 18 = .ok (.idiv, 1) := by decide +kernel
theorem dX4_digitSum_19 : decode cX4_digitSum 19 = .ok (.istore_n 2, 1) := by decide +kernel
theorem dX4_digitSum_20 : decode cX4_digitSum 20 = .ok (.goto (-16), 3) := by decide +kernel
theorem dX4_digitSum_23 : decode cX4_digitSum 23 = .ok (.iload_n 1, 1) := by decide +kernel
theorem dX4_digitSum_24 : decode cX4_digitSum 24 = .ok (.ireturn, 1) := by decide +kernel
theorem dX4_isMultipleOf_0 : decode cX4_isMultipleOf 0 = .ok (.iload_n 1, 1) := by decide +kernel
theorem dX4_isMultipleOf_1 : decode cX4_isMultipleOf 1 = .ok (.ifCond .le 13, 3) := by decide +kernel
theorem dX4_isMultipleOf_4 : decode cX4_isMultipleOf 4 = .ok (.iload_n 0, 1) := by decide +kernel
theorem dX4_isMultipleOf_5 : decode cX4_isMultipleOf 5 = .ok (.iload_n 1, 1) := by decide +kernel
theorem dX4_isMultipleOf_6 : decode cX4_isMultipleOf 6 = .ok (.irem, 1) := by decide +kernel
theorem dX4_isMultipleOf_7 : decode cX4_isMultipleOf 7 = .ok (.ifCond .ne 7, 3) := by decide +kernel
theorem dX4_isMultipleOf_10 : decode cX4_isMultipleOf 10 = .ok (.iconst 1, 1) := by decide +kernel
theorem dX4_isMultipleOf_11 : decode cX4_isMultipleOf 11 = .ok (.goto 4, 3) := by decide +kernel
theorem dX4_isMultipleOf_14 : decode cX4_isMultipleOf 14 = .ok (.iconst 0, 1) := by decide +kernel
theorem dX4_isMultipleOf_15 : decode cX4_isMultipleOf 15 = .ok (.ireturn, 1) := by decide +kernel
theorem dX5_init_0 : decode cX5_init 0 = .ok (.aload_n 0, 1) := by decide +kernel
theorem dX5_init_1 : decode cX5_init 1 = .ok (.invokespecial 3, 3) := by decide +kernel
theorem dX5_init_4 : decode cX5_init 4 = .ok (.aload_n 0, 1) := by decide +kernel
theorem dX5_init_5 : decode cX5_init 5 = .ok (.bipush 60, 2) := by decide +kernel
theorem dX5_init_7 : decode cX5_init 7 = .ok (.newarray .int, 2) := by decide +kernel
theorem dX5_init_9 : decode cX5_init 9 = .ok (.putfield 11, 3) := by decide +kernel
theorem dX5_init_12 : decode cX5_init 12 = .ok (.aload_n 0, 1) := by decide +kernel
theorem dX5_init_13 : decode cX5_init 13 = .ok (.bipush 60, 2) := by decide +kernel
theorem dX5_init_15 : decode cX5_init 15 = .ok (.newarray .int, 2) := by decide +kernel
theorem dX5_init_17 : decode cX5_init 17 = .ok (.putfield 15, 3) := by decide +kernel
theorem dX5_init_20 : decode cX5_init 20 = .ok (.aload_n 0, 1) := by decide +kernel
theorem dX5_init_21 : decode cX5_init 21 = .ok (.bipush 60, 2) := by decide +kernel
theorem dX5_init_23 : decode cX5_init 23 = .ok (.newarray .int, 2) := by decide +kernel
theorem dX5_init_25 : decode cX5_init 25 = .ok (.putfield 18, 3) := by decide +kernel
theorem dX5_init_28 : decode cX5_init 28 = .ok (.return_, 1) := by decide +kernel
theorem dX5_add_0 : decode cX5_add 0 = .ok (.aload_n 0, 1) := by decide +kernel
theorem dX5_add_1 : decode cX5_add 1 = .ok (.getfield 21, 3) := by decide +kernel
theorem dX5_add_4 : decode cX5_add 4 = .ok (.bipush 60, 2) := by decide +kernel
theorem dX5_add_6 : decode cX5_add 6 = .ok (.if_icmp .lt 5, 3) := by decide +kernel
theorem dX5_add_9 : decode cX5_add 9 = .ok (.iconst 0, 1) := by decide +kernel
theorem dX5_add_10 : decode cX5_add 10 = .ok (.ireturn, 1) := by decide +kernel
theorem dX5_add_11 : decode cX5_add 11 = .ok (.aload_n 0, 1) := by decide +kernel
theorem dX5_add_12 : decode cX5_add 12 = .ok (.getfield 11, 3) := by decide +kernel
theorem dX5_add_15 : decode cX5_add 15 = .ok (.aload_n 0, 1) := by decide +kernel
theorem dX5_add_16 : decode cX5_add 16 = .ok (.getfield 21, 3) := by decide +kernel
theorem dX5_add_19 : decode cX5_add 19 = .ok (.iload_n 1, 1) := by decide +kernel
theorem dX5_add_20 : decode cX5_add 20 = .ok (.iastore, 1) := by decide +kernel
theorem dX5_add_21 : decode cX5_add 21 = .ok (.aload_n 0, 1) := by decide +kernel
theorem dX5_add_22 : decode cX5_add 22 = .ok (.dup, 1) := by decide +kernel
theorem dX5_add_23 : decode cX5_add 23 = .ok (.getfield 21, 3) := by decide +kernel
theorem dX5_add_26 : decode cX5_add 26 = .ok (.iconst 1, 1) := by decide +kernel
theorem dX5_add_27 : decode cX5_add 27 = .ok (.iadd, 1) := by decide +kernel
theorem dX5_add_28 : decode cX5_add 28 = .ok (.putfield 21, 3) := by decide +kernel
theorem dX5_add_31 : decode cX5_add 31 = .ok (.iconst 1, 1) := by decide +kernel
theorem dX5_add_32 : decode cX5_add 32 = .ok (.ireturn, 1) := by decide +kernel
set_option maxRecDepth 20000 in
theorem ggX5_readActs_X5_isWhole : GoodIn wsX5_readActs wsX5_isWhole := goodIn_r _ [7] (by decide +kernel) (by decide +kernel)
set_option maxRecDepth 20000 in
theorem gX5_readActs_X5_isWhole : GoodIn wsX5_readActs (va_wsS RX5 28 yX5_isWhole wsX5_isWhole) := goodIn_app (goodIn_of _ (by decide +kernel)) ggX5_readActs_X5_isWhole
set_option maxRecDepth 20000 in
theorem ggX5_readActs_X5_addAct : GoodIn wsX5_readActs wsX5_addAct := goodIn_r _ [11, 12, 1, 13, 23, 24, 25, 26, 27] (by decide +kernel) (by decide +kernel)
set_option maxRecDepth 20000 in
theorem gX5_readActs_X5_addAct : GoodIn wsX5_readActs (wsV RX5 32 RX5 yX5_addAct wsX5_addAct) := goodIn_app (goodIn_of _ (by decide +kernel)) ggX5_readActs_X5_addAct
set_option maxRecDepth 20000 in
theorem ggX5_readActs_X5_isLetter : GoodIn wsX5_readActs wsX5_isLetter := goodIn_r _ [16, 17, 18, 19] (by decide +kernel) (by decide +kernel)
set_option maxRecDepth 20000 in
theorem gX5_readActs_X5_isLetter : GoodIn wsX5_readActs (va_wsS RX5 36 yX5_isLetter wsX5_isLetter) := goodIn_app (goodIn_of _ (by decide +kernel)) ggX5_readActs_X5_isLetter
set_option maxRecDepth 20000 in
theorem ggX5_readActs_X5_isSecond : GoodIn wsX5_readActs wsX5_isSecond := goodIn_r _ [22, 14, 15, 6, 16, 17, 18, 19] (by decide +kernel) (by decide +kernel)
set_option maxRecDepth 20000 in
theorem gX5_readActs_X5_isSecond : GoodIn wsX5_readActs (va_wsS RX5 39 yX5_isSecond wsX5_isSecond) := goodIn_app (goodIn_of _ (by decide +kernel)) ggX5_readActs_X5_isSecond
theorem dX5_readActs_0 : decode cX5_readActs 0 = .ok (.aload_n 0, 1) := by decide +kernel
theorem dX5_readActs_1 : decode cX5_readActs 1 = .ok (.iconst 0, 1) := by decide +kernel
theorem dX5_readActs_2 : decode cX5_readActs 2 = .ok (.putfield 25, 3) := by decide +kernel
theorem dX5_readActs_5 : decode cX5_readActs 5 = .ok (.iconst 0, 1) := by decide +kernel
theorem dX5_readActs_6 : decode cX5_readActs 6 = .ok (.istore_n 1, 1) := by decide +kernel
theorem dX5_readActs_7 : decode cX5_readActs 7 = .ok (.iload_n 1, 1) := by decide +kernel
theorem dX5_readActs_8 : decode cX5_readActs 8 = .ok (.aload_n 0, 1) := by decide +kernel
theorem dX5_readActs_9 : decode cX5_readActs 9 = .ok (.getfield 21, 3) := by decide +kernel
theorem dX5_readActs_12 : decode cX5_readActs 12 = .ok (.if_icmp .ge 80, 3) := by decide +kernel
theorem dX5_readActs_15 : decode cX5_readActs 15 = .ok (.aload_n 0, 1) := by decide +kernel
theorem dX5_readActs_16 : decode cX5_readActs 16 = .ok (.getfield 11, 3) := by decide +kernel
theorem dX5_readActs_19 : decode cX5_readActs 19 = .ok (.iload_n 1, 1) := by decide +kernel
theorem dX5_readActs_20 : decode cX5_readActs 20 = .ok (.iaload, 1) := by decide +kernel
theorem dX5_readActs_21 : decode cX5_readActs 21 = .ok (.istore_n 2, 1) := by decide +kernel
theorem dX5_readActs_22 : decode cX5_readActs 22 = .ok (.iload_n 2, 1) := by decide +kernel
theorem dX5_readActs_23 : decode cX5_readActs 23 = .ok (.invokestatic 28, 3) := by decide +kernel
theorem dX5_readActs_26 : decode cX5_readActs 26 = .ok (.ifCond .eq 12, 3) := by decide +kernel
theorem dX5_readActs_29 : decode cX5_readActs 29 = .ok (.aload_n 0, 1) := by decide +kernel
theorem dX5_readActs_30 : decode cX5_readActs 30 = .ok (.iconst (-1), 1) := by decide +kernel
theorem dX5_readActs_31 : decode cX5_readActs 31 = .ok (.iload_n 2, 1) := by decide +kernel
theorem dX5_readActs_32 : decode cX5_readActs 32 = .ok (.invokevirtual 32, 3) := by decide +kernel
theorem dX5_readActs_35 : decode cX5_readActs 35 = .ok (.goto 51, 3) := by decide +kernel
theorem dX5_readActs_38 : decode cX5_readActs 38 = .ok (.iload_n 2, 1) := by decide +kernel
theorem dX5_readActs_39 : decode cX5_readActs 39 = .ok (.invokestatic 36, 3) := by decide +kernel
theorem dX5_readActs_42 : decode cX5_readActs 42 = .ok (.ifCond .ne 5, 3) := by decide +kernel
theorem dX5_readActs_45 : decode cX5_readActs 45 = .ok (.iload_n 1, 1) := by decide +kernel
theorem dX5_readActs_46 : decode cX5_readActs 46 = .ok (.ireturn, 1) := by decide +kernel
theorem dX5_readActs_47 : decode cX5_readActs 47 = .ok (.iinc 1 1, 3) := by decide +kernel
theorem dX5_readActs_50 : decode cX5_readActs 50 = .ok (.iload_n 1, 1) := by decide +kernel
theorem dX5_readActs_51 : decode cX5_readActs 51 = .ok (.aload_n 0, 1) := by decide +kernel
theorem dX5_readActs_52 : decode cX5_readActs 52 = .ok (.getfield 21, 3) := by decide +kernel
theorem dX5_readActs_55 : decode cX5_readActs 55 = .ok (.if_icmp .ge 15, 3) := by decide +kernel
theorem dX5_readActs_58 : decode cX5_readActs 58 = .ok (.aload_n 0, 1) := by decide +kernel
theorem dX5_readActs_59 : decode cX5_readActs 59 = .ok (.getfield 11, 3) := by decide +kernel
theorem dX5_readActs_62 : decode cX5_readActs 62 = .ok (.iload_n 1, 1) := by decide +kernel
theorem dX5_readActs_63 : decode cX5_readActs 63 = .ok (.iaload, 1) := by decide +kernel
theorem dX5_readActs_64 : decode cX5_readActs 64 = .ok (.invokestatic 39, 3) := by decide +kernel
theorem dX5_readActs_67 : decode cX5_readActs 67 = .ok (.ifCond .ne 5, 3) := by decide +kernel
theorem dX5_readActs_70 : decode cX5_readActs 70 = .ok (.iload_n 1, 1) := by decide +kernel
theorem dX5_readActs_71 : decode cX5_readActs 71 = .ok (.ireturn, 1) := by decide +kernel
theorem dX5_readActs_72 : decode cX5_readActs 72 = .ok (.aload_n 0, 1) := by decide +kernel
theorem dX5_readActs_73 : decode cX5_readActs 73 = .ok (.iload_n 2, 1) := by decide +kernel
theorem dX5_readActs_74 : decode cX5_readActs 74 = .ok (.bipush 65, 2) := by decide +kernel
theorem dX5_readActs_76 : decode cX5_readActs 76 = .ok (.isub, 1) := by decide +kernel
theorem dX5_readActs_77 : decode cX5_readActs 77 = .ok (.aload_n 0, 1) := by decide +kernel
theorem dX5_readActs_78 : decode cX5_readActs 78 = .ok (.getfield 11, 3) := by decide +kernel
theorem dX5_readActs_81 : decode cX5_readActs 81 = .ok (.iload_n 1, 1) := by decide +kernel
theorem dX5_readActs_82 : decode cX5_readActs 82 = .ok (.iaload, 1) := by decide +kernel
theorem dX5_readActs_83 : decode cX5_readActs 83 = .ok (.invokevirtual 32, 3) := by decide +kernel
theorem dX5_readActs_86 : decode cX5_readActs 86 = .ok (.iinc 1 1, 3) := by decide +kernel
theorem dX5_readActs_89 : decode cX5_readActs 89 = .ok (.goto (-82), 3) := by decide +kernel
theorem dX5_readActs_92 : decode cX5_readActs 92 = .ok (.bipush (-6), 2) := by decide +kernel
theorem dX5_readActs_94 : decode cX5_readActs 94 = .ok (.ireturn, 1) := by decide +kernel
theorem dX5_addAct_0 : decode cX5_addAct 0 = .ok (.aload_n 0, 1) := by decide +kernel
theorem dX5_addAct_1 : decode cX5_addAct 1 = .ok (.getfield 15, 3) := by decide +kernel
theorem dX5_addAct_4 : decode cX5_addAct 4 = .ok (.aload_n 0, 1) := by decide +kernel
theorem dX5_addAct_5 : decode cX5_addAct 5 = .ok (.getfield 25, 3) := by decide +kernel
theorem dX5_addAct_8 : decode cX5_addAct 8 = .ok (.iload_n 1, 1) := by decide +kernel
theorem dX5_addAct_9 : decode cX5_addAct 9 = .ok (.iastore, 1) := by decide +kernel
theorem dX5_addAct_10 : decode cX5_addAct 10 = .ok (.aload_n 0, 1) := by decide +kernel
theorem dX5_addAct_11 : decode cX5_addAct 11 = .ok (.getfield 18, 3) := by decide +kernel
theorem dX5_addAct_14 : decode cX5_addAct 14 = .ok (.aload_n 0, 1) := by decide +kernel
theorem dX5_addAct_15 : decode cX5_addAct 15 = .ok (.getfield 25, 3) := by decide +kernel
theorem dX5_addAct_18 : decode cX5_addAct 18 = .ok (.iload_n 2, 1) := by decide +kernel
theorem dX5_addAct_19 : decode cX5_addAct 19 = .ok (.iastore, 1) := by decide +kernel
theorem dX5_addAct_20 : decode cX5_addAct 20 = .ok (.aload_n 0, 1) := by decide +kernel
theorem dX5_addAct_21 : decode cX5_addAct 21 = .ok (.dup, 1) := by decide +kernel
theorem dX5_addAct_22 : decode cX5_addAct 22 = .ok (.getfield 25, 3) := by decide +kernel
theorem dX5_addAct_25 : decode cX5_addAct 25 = .ok (.iconst 1, 1) := by decide +kernel
theorem dX5_addAct_26 : decode cX5_addAct 26 = .ok (.iadd, 1) := by decide +kernel
theorem dX5_addAct_27 : decode cX5_addAct 27 = .ok (.putfield 25, 3) := by decide +kernel
theorem dX5_addAct_30 : decode cX5_addAct 30 = .ok (.return_, 1) := by decide +kernel
theorem dX5_isWhole_0 : decode cX5_isWhole 0 = .ok (.iload_n 0, 1) := by decide +kernel
theorem dX5_isWhole_1 : decode cX5_isWhole 1 = .ok (.bipush 46, 2) := by decide +kernel
theorem dX5_isWhole_3 : decode cX5_isWhole 3 = .ok (.if_icmp .eq 21, 3) := by decide +kernel
theorem dX5_isWhole_6 : decode cX5_isWhole 6 = .ok (.iload_n 0, 1) := by decide +kernel
theorem dX5_isWhole_7 : decode cX5_isWhole 7 = .ok (.bipush 58, 2) := by decide +kernel
theorem dX5_isWhole_9 : decode cX5_isWhole 9 = .ok (.if_icmp .eq 15, 3) := by decide +kernel
theorem dX5_isWhole_12 : decode cX5_isWhole 12 = .ok (.iload_n 0, 1) := by decide +kernel
theorem dX5_isWhole_13 : decode cX5_isWhole 13 = .ok (.bipush 33, 2) := by decide +kernel
theorem dX5_isWhole_15 : decode cX5_isWhole 15 = .ok (.if_icmp .eq 9, 3) := by decide +kernel
theorem dX5_isWhole_18 : decode cX5_isWhole 18 = .ok (.iload_n 0, 1) := by decide +kernel
theorem dX5_isWhole_19 : decode cX5_isWhole 19 = .ok (.bipush 42, 2) := by decide +kernel
theorem dX5_isWhole_21 : decode cX5_isWhole 21 = .ok (.if_icmp .ne 7, 3) := by decide +kernel
theorem dX5_isWhole_24 : decode cX5_isWhole 24 = .ok (.iconst 1, 1) := by decide +kernel
theorem dX5_isWhole_25 : decode cX5_isWhole 25 = .ok (.goto 4, 3) := by decide +kernel
theorem dX5_isWhole_28 : decode cX5_isWhole 28 = .ok (.iconst 0, 1) := by decide +kernel
theorem dX5_isWhole_29 : decode cX5_isWhole 29 = .ok (.ireturn, 1) := by decide +kernel
set_option maxRecDepth 20000 in
theorem ggX5_isLetter_X9_isMonk : GoodIn wsX5_isLetter wsX9_isMonk := goodIn_r _ [3] (by decide +kernel) (by decide +kernel)
set_option maxRecDepth 20000 in
theorem gX5_isLetter_X9_isMonk_n42 : GoodIn wsX5_isLetter (wsX9_isMonk) := ggX5_isLetter_X9_isMonk
theorem dX5_isLetter_0 : decode cX5_isLetter 0 = .ok (.iload_n 0, 1) := by decide +kernel
theorem dX5_isLetter_1 : decode cX5_isLetter 1 = .ok (.bipush 65, 2) := by decide +kernel
theorem dX5_isLetter_3 : decode cX5_isLetter 3 = .ok (.isub, 1) := by decide +kernel
theorem dX5_isLetter_4 : decode cX5_isLetter 4 = .ok (.invokestatic 42, 3) := by decide +kernel
theorem dX5_isLetter_7 : decode cX5_isLetter 7 = .ok (.ireturn, 1) := by decide +kernel
set_option maxRecDepth 20000 in
theorem ggX5_isSecond_X5_isLetter : GoodIn wsX5_isSecond wsX5_isLetter := goodIn_r _ [4, 5, 6, 7] (by decide +kernel) (by decide +kernel)
set_option maxRecDepth 20000 in
theorem gX5_isSecond_X5_isLetter : GoodIn wsX5_isSecond (va_wsS RX5 36 yX5_isLetter wsX5_isLetter) := goodIn_app (goodIn_of _ (by decide +kernel)) ggX5_isSecond_X5_isLetter
theorem dX5_isSecond_0 : decode cX5_isSecond 0 = .ok (.iload_n 0, 1) := by decide +kernel
theorem dX5_isSecond_1 : decode cX5_isSecond 1 = .ok (.invokestatic 36, 3) := by decide +kernel
theorem dX5_isSecond_4 : decode cX5_isSecond 4 = .ok (.ifCond .ne 21, 3) := by decide +kernel
theorem dX5_isSecond_7 : decode cX5_isSecond 7 = .ok (.iload_n 0, 1) := by decide +kernel
theorem dX5_isSecond_8 : decode cX5_isSecond 8 = .ok (.bipush 119, 2) := by decide +kernel
theorem dX5_isSecond_10 : decode cX5_isSecond 10 = .ok (.if_icmp .eq 15, 3) := by decide +kernel
theorem dX5_isSecond_13 : decode cX5_isSecond 13 = .ok (.iload_n 0, 1) := by decide +kernel
theorem dX5_isSecond_14 : decode cX5_isSecond 14 = .ok (.bipush 107, 2) := by decide +kernel
theorem dX5_isSecond_16 : decode cX5_isSecond 16 = .ok (.if_icmp .eq 9, 3) := by decide +kernel
theorem dX5_isSecond_19 : decode cX5_isSecond 19 = .ok (.iload_n 0, 1) := by decide +kernel
theorem dX5_isSecond_20 : decode cX5_isSecond 20 = .ok (.bipush 101, 2) := by decide +kernel
theorem dX5_isSecond_22 : decode cX5_isSecond 22 = .ok (.if_icmp .ne 7, 3) := by decide +kernel
theorem dX5_isSecond_25 : decode cX5_isSecond 25 = .ok (.iconst 1, 1) := by decide +kernel
theorem dX5_isSecond_26 : decode cX5_isSecond 26 = .ok (.goto 4, 3) := by decide +kernel
theorem dX5_isSecond_29 : decode cX5_isSecond 29 = .ok (.iconst 0, 1) := by decide +kernel
theorem dX5_isSecond_30 : decode cX5_isSecond 30 = .ok (.ireturn, 1) := by decide +kernel
theorem dX6_init_0 : decode cX6_init 0 = .ok (.aload_n 0, 1) := by decide +kernel
theorem dX6_init_1 : decode cX6_init 1 = .ok (.invokespecial 1, 3) := by decide +kernel
theorem dX6_init_4 : decode cX6_init 4 = .ok (.aload_n 0, 1) := by decide +kernel
theorem dX6_init_5 : decode cX6_init 5 = .ok (.bipush 8, 2) := by decide +kernel
theorem dX6_init_7 : decode cX6_init 7 = .ok (.newarray .int, 2) := by decide +kernel
theorem dX6_init_9 : decode cX6_init 9 = .ok (.putfield 7, 3) := by decide +kernel
theorem dX6_init_12 : decode cX6_init 12 = .ok (.aload_n 0, 1) := by decide +kernel
theorem dX6_init_13 : decode cX6_init 13 = .ok (.bipush 8, 2) := by decide +kernel
theorem dX6_init_15 : decode cX6_init 15 = .ok (.newarray .int, 2) := by decide +kernel
theorem dX6_init_17 : decode cX6_init 17 = .ok (.putfield 13, 3) := by decide +kernel
theorem dX6_init_20 : decode cX6_init 20 = .ok (.aload_n 0, 1) := by decide +kernel
theorem dX6_init_21 : decode cX6_init 21 = .ok (.bipush 8, 2) := by decide +kernel
theorem dX6_init_23 : decode cX6_init 23 = .ok (.newarray .boolean, 2) := by decide +kernel
theorem dX6_init_25 : decode cX6_init 25 = .ok (.putfield 16, 3) := by decide +kernel
theorem dX6_init_28 : decode cX6_init 28 = .ok (.return_, 1) := by decide +kernel
theorem dX6_add_0 : decode cX6_add 0 = .ok (.aload_n 0, 1) := by decide +kernel
theorem dX6_add_1 : decode cX6_add 1 = .ok (.getfield 20, 3) := by decide +kernel
theorem dX6_add_4 : decode cX6_add 4 = .ok (.aload_n 0, 1) := by decide +kernel
theorem dX6_add_5 : decode cX6_add 5 = .ok (.getfield 7, 3) := by decide +kernel
theorem dX6_add_8 : decode cX6_add 8 = .ok (.arraylength, 1) := by decide +kernel
theorem dX6_add_9 : decode cX6_add 9 = .ok (.if_icmp .lt 5, 3) := by decide +kernel
theorem dX6_add_12 : decode cX6_add 12 = .ok (.iconst 0, 1) := by decide +kernel
theorem dX6_add_13 : decode cX6_add 13 = .ok (.ireturn, 1) := by decide +kernel
theorem dX6_add_14 : decode cX6_add 14 = .ok (.aload_n 0, 1) := by decide +kernel
theorem dX6_add_15 : decode cX6_add 15 = .ok (.getfield 7, 3) := by decide +kernel
theorem dX6_add_18 : decode cX6_add 18 = .ok (.aload_n 0, 1) := by decide +kernel
theorem dX6_add_19 : decode cX6_add 19 = .ok (.getfield 20, 3) := by decide +kernel
theorem dX6_add_22 : decode cX6_add 22 = .ok (.iload_n 1, 1) := by decide +kernel
theorem dX6_add_23 : decode cX6_add 23 = .ok (.iastore, 1) := by decide +kernel
theorem dX6_add_24 : decode cX6_add 24 = .ok (.aload_n 0, 1) := by decide +kernel
theorem dX6_add_25 : decode cX6_add 25 = .ok (.getfield 13, 3) := by decide +kernel
theorem dX6_add_28 : decode cX6_add 28 = .ok (.aload_n 0, 1) := by decide +kernel
theorem dX6_add_29 : decode cX6_add 29 = .ok (.getfield 20, 3) := by decide +kernel
theorem dX6_add_32 : decode cX6_add 32 = .ok (.iload_n 2, 1) := by decide +kernel
theorem dX6_add_33 : decode cX6_add 33 = .ok (.iastore, 1) := by decide +kernel
theorem dX6_add_34 : decode cX6_add 34 = .ok (.aload_n 0, 1) := by decide +kernel
theorem dX6_add_35 : decode cX6_add 35 = .ok (.getfield 16, 3) := by decide +kernel
theorem dX6_add_38 : decode cX6_add 38 = .ok (.aload_n 0, 1) := by decide +kernel
theorem dX6_add_39 : decode cX6_add 39 = .ok (.getfield 20, 3) := by decide +kernel
theorem dX6_add_42 : decode cX6_add 42 = .ok (.iload_n 3, 1) := by decide +kernel
theorem dX6_add_43 : decode cX6_add 43 = .ok (.bastore, 1) := by decide +kernel
theorem dX6_add_44 : decode cX6_add 44 = .ok (.aload_n 0, 1) := by decide +kernel
theorem dX6_add_45 : decode cX6_add 45 = .ok (.dup, 1) := by decide +kernel
theorem dX6_add_46 : decode cX6_add 46 = .ok (.getfield 20, 3) := by decide +kernel
theorem dX6_add_49 : decode cX6_add 49 = .ok (.iconst 1, 1) := by decide +kernel
theorem dX6_add_50 : decode cX6_add 50 = .ok (.iadd, 1) := by decide +kernel
theorem dX6_add_51 : decode cX6_add 51 = .ok (.putfield 20, 3) := by decide +kernel
theorem dX6_add_54 : decode cX6_add 54 = .ok (.iconst 1, 1) := by decide +kernel
theorem dX6_add_55 : decode cX6_add 55 = .ok (.ireturn, 1) := by decide +kernel
theorem dX6_copyFrom_0 : decode cX6_copyFrom 0 = .ok (.aload_n 0, 1) := by decide +kernel
theorem dX6_copyFrom_1 : decode cX6_copyFrom 1 = .ok (.aload_n 1, 1) := by decide +kernel
theorem dX6_copyFrom_2 : decode cX6_copyFrom 2 = .ok (.getfield 20, 3) := by decide +kernel
theorem dX6_copyFrom_5 : decode cX6_copyFrom 5 = .ok (.putfield 20, 3) := by decide +kernel
theorem dX6_copyFrom_8 : decode cX6_copyFrom 8 = .ok (.iconst 0, 1) := by decide +kernel
theorem dX6_copyFrom_9 : decode cX6_copyFrom 9 = .ok (.istore_n 2, 1) := by decide +kernel
theorem dX6_copyFrom_10 : decode cX6_copyFrom 10 = .ok (.iload_n 2, 1) := by decide +kernel
theorem dX6_copyFrom_11 : decode cX6_copyFrom 11 = .ok (.aload_n 0, 1) := by decide +kernel
theorem dX6_copyFrom_12 : decode cX6_copyFrom 12 = .ok (.getfield 20, 3) := by decide +kernel
theorem dX6_copyFrom_15 : decode cX6_copyFrom 15 = .ok (.if_icmp .ge 45, 3) := by decide +kernel
theorem dX6_copyFrom_18 : decode cX6_copyFrom 18 = .ok (.aload_n 0, 1) := by decide +kernel
theorem dX6_copyFrom_19 : decode cX6_copyFrom 19 = .ok (.getfield 7, 3) := by decide +kernel
theorem dX6_copyFrom_22 : decode cX6_copyFrom 22 = .ok (.iload_n 2, 1) := by decide +kernel
theorem dX6_copyFrom_23 : decode cX6_copyFrom 23 = .ok (.aload_n 1, 1) := by decide +kernel
theorem dX6_copyFrom_24 : decode cX6_copyFrom 24 = .ok (.getfield 7, 3) := by decide +kernel
theorem dX6_copyFrom_27 : decode cX6_copyFrom 27 = .ok (.iload_n 2, 1) := by decide +kernel
theorem dX6_copyFrom_28 : decode cX6_copyFrom 28 = .ok (.iaload, 1) := by decide +kernel
theorem dX6_copyFrom_29 : decode cX6_copyFrom 29 = .ok (.iastore, 1) := by decide +kernel
theorem dX6_copyFrom_30 : decode cX6_copyFrom 30 = .ok (.aload_n 0, 1) := by decide +kernel
theorem dX6_copyFrom_31 : decode cX6_copyFrom 31 = .ok (.getfield 13, 3) := by decide +kernel
theorem dX6_copyFrom_34 : decode cX6_copyFrom 34 = .ok (.iload_n 2, 1) := by decide +kernel
theorem dX6_copyFrom_35 : decode cX6_copyFrom 35 = .ok (.aload_n 1, 1) := by decide +kernel
theorem dX6_copyFrom_36 : decode cX6_copyFrom 36 = .ok (.getfield 13, 3) := by decide +kernel
theorem dX6_copyFrom_39 : decode cX6_copyFrom 39 = .ok (.iload_n 2, 1) := by decide +kernel
theorem dX6_copyFrom_40 : decode cX6_copyFrom 40 = .ok (.iaload, 1) := by decide +kernel
theorem dX6_copyFrom_41 : decode cX6_copyFrom 41 = .ok (.iastore, 1) := by decide +kernel
theorem dX6_copyFrom_42 : decode cX6_copyFrom 42 = .ok (.aload_n 0, 1) := by decide +kernel
theorem dX6_copyFrom_43 : decode cX6_copyFrom 43 = .ok (.getfield 16, 3) := by decide +kernel
theorem dX6_copyFrom_46 : decode cX6_copyFrom 46 = .ok (.iload_n 2, 1) := by decide +kernel
theorem dX6_copyFrom_47 : decode cX6_copyFrom 47 = .ok (.aload_n 1, 1) := by decide +kernel
theorem dX6_copyFrom_48 : decode cX6_copyFrom 48 = .ok (.getfield 16, 3) := by decide +kernel
theorem dX6_copyFrom_51 : decode cX6_copyFrom 51 = .ok (.iload_n 2, 1) := by decide +kernel
theorem dX6_copyFrom_52 : decode cX6_copyFrom 52 = .ok (.baload, 1) := by decide +kernel
theorem dX6_copyFrom_53 : decode cX6_copyFrom 53 = .ok (.bastore, 1) := by decide +kernel
theorem dX6_copyFrom_54 : decode cX6_copyFrom 54 = .ok (.iinc 2 1, 3) := by decide +kernel
theorem dX6_copyFrom_57 : decode cX6_copyFrom 57 = .ok (.goto (-47), 3) := by decide +kernel
theorem dX6_copyFrom_60 : decode cX6_copyFrom 60 = .ok (.return_, 1) := by decide +kernel
theorem dX7_init_0 : decode cX7_init 0 = .ok (.aload_n 0, 1) := by decide +kernel
theorem dX7_init_1 : decode cX7_init 1 = .ok (.invokespecial 3, 3) := by decide +kernel
theorem dX7_init_4 : decode cX7_init 4 = .ok (.aload_n 0, 1) := by decide +kernel
theorem dX7_init_5 : decode cX7_init 5 = .ok (.bipush 8, 2) := by decide +kernel
theorem dX7_init_7 : decode cX7_init 7 = .ok (.newarray .int, 2) := by decide +kernel
theorem dX7_init_9 : decode cX7_init 9 = .ok (.putfield 9, 3) := by decide +kernel
theorem dX7_init_12 : decode cX7_init 12 = .ok (.return_, 1) := by decide +kernel
set_option maxRecDepth 20000 in
theorem ggX7_find_X7_monksSeenOtherwise : GoodIn wsX7_find wsX7_monksSeenOtherwise := goodIn_r _ [8, 9, 10, 11, 12, 7, 13, 14, 15, 16, 17, 18, 19, 20, 21, 22, 23, 24, 25, 26, 27, 28, 29, 30, 31, 32, 33, 34, 35, 36, 37, 38, 39, 40, 41, 42, 43, 44, 45, 46, 47, 48, 49, 50, 51, 52, 53, 68, 69, 70, 71, 72, 73, 74, 75, 76, 77] (by decide +kernel) (by decide +kernel)
set_option maxRecDepth 20000 in
theorem gX7_find_X7_monksSeenOtherwise : GoodIn wsX7_find (va_wsS RX7 15 yX7_monksSeenOtherwise wsX7_monksSeenOtherwise) := goodIn_app (goodIn_of _ (by decide +kernel)) ggX7_find_X7_monksSeenOtherwise
set_option maxRecDepth 20000 in
theorem ggX7_find_X2_isAwake : GoodIn wsX7_find wsX2_isAwake := goodIn_r _ [23, 24, 72, 73, 74, 75, 76, 77] (by decide +kernel) (by decide +kernel)
set_option maxRecDepth 20000 in
theorem gX7_find_X2_isAwake : GoodIn wsX7_find (wsV RX7 30 RX2 yX2_isAwake wsX2_isAwake) := goodIn_app (goodIn_of _ (by decide +kernel)) ggX7_find_X2_isAwake
set_option maxRecDepth 20000 in
theorem ggX7_find_X7_fittingSkips : GoodIn wsX7_find wsX7_fittingSkips := goodIn_r _ [56, 9, 10, 11, 12, 7, 13, 14, 15, 16, 17, 18, 19, 20, 21, 22, 23, 24, 25, 26, 27, 28, 29, 30, 31, 32, 33, 34, 35, 36, 37, 38, 39, 40, 41, 42, 43, 44, 45, 46, 47, 48, 49, 50, 51, 52, 53, 68, 69, 70, 71, 72, 73, 74, 75, 76, 77] (by decide +kernel) (by decide +kernel)
set_option maxRecDepth 20000 in
theorem gX7_find_X7_fittingSkips : GoodIn wsX7_find (va_wsS RX7 36 yX7_fittingSkips wsX7_fittingSkips) := goodIn_app (goodIn_of _ (by decide +kernel)) ggX7_find_X7_fittingSkips
set_option maxRecDepth 20000 in
theorem ggX7_find_J6_bitCount_0f7a4 : GoodIn wsX7_find wsJ6_bitCount_0f7a4 := goodIn_r _ [60, 61, 62, 63] (by decide +kernel) (by decide +kernel)
set_option maxRecDepth 20000 in
theorem gX7_find_J6_bitCount_0f7a4 : GoodIn wsX7_find (va_wsS RX7 40 yJ6_bitCount_0f7a4 wsJ6_bitCount_0f7a4) := goodIn_app (goodIn_of _ (by decide +kernel)) ggX7_find_J6_bitCount_0f7a4
theorem dX7_find_0 : decode cX7_find 0 = .ok (.iload_n 1, 1) := by decide +kernel
theorem dX7_find_1 : decode cX7_find 1 = .ok (.aload_n 2, 1) := by decide +kernel
theorem dX7_find_2 : decode cX7_find 2 = .ok (.aload_n 3, 1) := by decide +kernel
theorem dX7_find_3 : decode cX7_find 3 = .ok (.invokestatic 15, 3) := by decide +kernel
theorem dX7_find_6 : decode cX7_find 6 = .ok (.istore 4, 2) := by decide +kernel
theorem dX7_find_8 : decode cX7_find 8 = .ok (.aload_n 0, 1) := by decide +kernel
theorem dX7_find_9 : decode cX7_find 9 = .ok (.iload 4, 2) := by decide +kernel
theorem dX7_find_11 : decode cX7_find 11 = .ok (.ifCond .ne 7, 3) := by decide +kernel
theorem dX7_find_14 : decode cX7_find 14 = .ok (.iconst 1, 1) := by decide +kernel
theorem dX7_find_15 : decode cX7_find 15 = .ok (.goto 4, 3) := by decide +kernel
theorem dX7_find_18 : decode cX7_find 18 = .ok (.iconst 0, 1) := by decide +kernel
theorem dX7_find_19 : decode cX7_find 19 = .ok (.putfield 19, 3) := by decide +kernel
theorem dX7_find_22 : decode cX7_find 22 = .ok (.aload_n 0, 1) := by decide +kernel
theorem dX7_find_23 : decode cX7_find 23 = .ok (.aload_n 0, 1) := by decide +kernel
theorem dX7_find_24 : decode cX7_find 24 = .ok (.getfield 19, 3) := by decide +kernel
theorem dX7_find_27 : decode cX7_find 27 = .ok (.ifCond .eq 7, 3) := by decide +kernel
theorem dX7_find_30 : decode cX7_find 30 = .ok (.iconst 1, 1) := by decide +kernel
theorem dX7_find_31 : decode cX7_find 31 = .ok (.goto 4, 3) := by decide +kernel
theorem dX7_find_34 : decode cX7_find 34 = .ok (.iconst 0, 1) := by decide +kernel
theorem dX7_find_35 : decode cX7_find 35 = .ok (.putfield 23, 3) := by decide +kernel
theorem dX7_find_38 : decode cX7_find 38 = .ok (.aload_n 0, 1) := by decide +kernel
theorem dX7_find_39 : decode cX7_find 39 = .ok (.iconst 0, 1) := by decide +kernel
theorem dX7_find_40 : decode cX7_find 40 = .ok (.putfield 27, 3) := by decide +kernel
theorem dX7_find_43 : decode cX7_find 43 = .ok (.iconst 0, 1) := by decide +kernel
theorem dX7_find_44 : decode cX7_find 44 = .ok (.istore 5, 2) := by decide +kernel
theorem dX7_find_46 : decode cX7_find 46 = .ok (.iload 5, 2) := by decide +kernel
theorem dX7_find_48 : decode cX7_find 48 = .ok (.bipush 8, 2) := by decide +kernel
theorem dX7_find_50 : decode cX7_find 50 = .ok (.if_icmp .ge 103, 3) := by decide +kernel
theorem dX7_find_53 : decode cX7_find 53 = .ok (.aload_n 2, 1) := by decide +kernel
theorem dX7_find_54 : decode cX7_find 54 = .ok (.iload 5, 2) := by decide +kernel
theorem dX7_find_56 : decode cX7_find 56 = .ok (.invokevirtual 30, 3) := by decide +kernel
theorem dX7_find_59 : decode cX7_find 59 = .ok (.ifCond .eq 19, 3) := by decide +kernel
theorem dX7_find_62 : decode cX7_find 62 = .ok (.iload 4, 2) := by decide +kernel
theorem dX7_find_64 : decode cX7_find 64 = .ok (.iconst 1, 1) := by decide +kernel
theorem dX7_find_65 : decode cX7_find 65 = .ok (.iload 5, 2) := by decide +kernel
theorem dX7_find_67 : decode cX7_find 67 = .ok (.ishl, 1) := by decide +kernel
theorem dX7_find_68 : decode cX7_find 68 = .ok (.iconst (-1), 1) := by decide +kernel
theorem dX7_find_69 : decode cX7_find 69 = .ok (.ixor, 1) := by decide +kernel
theorem dX7_find_70 : decode cX7_find 70 = .ok (.iand, 1) := by decide +kernel
theorem dX7_find_71 : decode cX7_find 71 = .ok (.ifCond .ne 7, 3) := by decide +kernel
theorem dX7_find_74 : decode cX7_find 74 = .ok (.iconst 1, 1) := by decide +kernel
theorem dX7_find_75 : decode cX7_find 75 = .ok (.goto 4, 3) := by decide +kernel
theorem dX7_find_78 : decode cX7_find 78 = .ok (.iconst 0, 1) := by decide +kernel
theorem dX7_find_79 : decode cX7_find 79 = .ok (.istore 6, 2) := by decide +kernel
theorem dX7_find_81 : decode cX7_find 81 = .ok (.aload_n 0, 1) := by decide +kernel
theorem dX7_find_82 : decode cX7_find 82 = .ok (.getfield 9, 3) := by decide +kernel
theorem dX7_find_85 : decode cX7_find 85 = .ok (.iload 5, 2) := by decide +kernel
theorem dX7_find_87 : decode cX7_find 87 = .ok (.iload 6, 2) := by decide +kernel
theorem dX7_find_89 : decode cX7_find 89 = .ok (.ifCond .eq 14, 3) := by decide +kernel
theorem dX7_find_92 : decode cX7_find 92 = .ok (.iload_n 1, 1) := by decide +kernel
theorem dX7_find_93 : decode cX7_find 93 = .ok (.aload_n 2, 1) := by decide +kernel
theorem dX7_find_94 : decode cX7_find 94 = .ok (.aload_n 3, 1) := by decide +kernel
theorem dX7_find_95 : decode cX7_find 95 = .ok (.iload 5, 2) := by decide +kernel
theorem dX7_find_97 : decode cX7_find 97 = .ok (.invokestatic 36, 3) := by decide +kernel
theorem dX7_find_100 : decode cX7_find 100 = .ok (.goto 4, 3) := by decide +kernel
theorem dX7_find_103 : decode cX7_find 103 = .ok (.iconst 0, 1) := by decide +kernel
theorem dX7_find_104 : decode cX7_find 104 = .ok (.iastore, 1) := by decide +kernel
theorem dX7_find_105 : decode cX7_find 105 = .ok (.aload_n 0, 1) := by decide +kernel
theorem dX7_find_106 : decode cX7_find 106 = .ok (.getfield 9, 3) := by decide +kernel
theorem dX7_find_109 : decode cX7_find 109 = .ok (.iload 5, 2) := by decide +kernel
theorem dX7_find_111 : decode cX7_find 111 = .ok (.iaload, 1) := by decide +kernel
theorem dX7_find_112 : decode cX7_find 112 = .ok (.ifCond .eq 16, 3) := by decide +kernel
theorem dX7_find_115 : decode cX7_find 115 = .ok (.aload_n 0, 1) := by decide +kernel
theorem dX7_find_116 : decode cX7_find 116 = .ok (.dup, 1) := by decide +kernel
theorem dX7_find_117 : decode cX7_find 117 = .ok (.getfield 27, 3) := by decide +kernel
theorem dX7_find_120 : decode cX7_find 120 = .ok (.iconst 1, 1) := by decide +kernel
theorem dX7_find_121 : decode cX7_find 121 = .ok (.iload 5, 2) := by decide +kernel
theorem dX7_find_123 : decode cX7_find 123 = .ok (.ishl, 1) := by decide +kernel
theorem dX7_find_124 : decode cX7_find 124 = .ok (.ior, 1) := by decide +kernel
theorem dX7_find_125 : decode cX7_find 125 = .ok (.putfield 27, 3) := by decide +kernel
theorem dX7_find_128 : decode cX7_find 128 = .ok (.aload_n 0, 1) := by decide +kernel
theorem dX7_find_129 : decode cX7_find 129 = .ok (.dup, 1) := by decide +kernel
theorem dX7_find_130 : decode cX7_find 130 = .ok (.getfield 23, 3) := by decide +kernel
theorem dX7_find_133 : decode cX7_find 133 = .ok (.aload_n 0, 1) := by decide +kernel
theorem dX7_find_134 : decode cX7_find 134 = .ok (.getfield 9, 3) := by decide +kernel
theorem dX7_find_137 : decode cX7_find 137 = .ok (.iload 5, 2) := by decide +kernel
theorem dX7_find_139 : decode cX7_find 139 = .ok (.iaload, 1) := by decide +kernel
theorem dX7_find_140 : decode cX7_find 140 = .ok (.invokestatic 40, 3) := by decide +kernel
theorem dX7_find_143 : decode cX7_find 143 = .ok (.iadd, 1) := by decide +kernel
theorem dX7_find_144 : decode cX7_find 144 = .ok (.putfield 23, 3) := by decide +kernel
theorem dX7_find_147 : decode cX7_find 147 = .ok (.iinc 5 1, 3) := by decide +kernel
theorem dX7_find_150 : decode cX7_find 150 = .ok (.goto (-104), 3) := by decide +kernel
theorem dX7_find_153 : decode cX7_find 153 = .ok (.return_, 1) := by decide +kernel
set_option maxRecDepth 20000 in
theorem ggX7_leftAtTheMost_X7_bowsThen : GoodIn wsX7_leftAtTheMost wsX7_bowsThen := goodIn_r _ [10, 11, 12, 13, 14, 15, 16, 17, 18, 19, 20, 21, 22, 23, 4, 5, 6, 24, 25, 26, 27, 28, 29, 30, 31, 32, 33, 34, 35, 36, 37, 38, 39, 40, 41, 42, 54, 55, 56, 57, 58, 59] (by decide +kernel) (by decide +kernel)
set_option maxRecDepth 20000 in
theorem gX7_leftAtTheMost_X7_bowsThen : GoodIn wsX7_leftAtTheMost (va_wsS RX7 46 yX7_bowsThen wsX7_bowsThen) := goodIn_app (goodIn_of _ (by decide +kernel)) ggX7_leftAtTheMost_X7_bowsThen
set_option maxRecDepth 20000 in
theorem ggX7_leftAtTheMost_J6_bitCount_0f7a4 : GoodIn wsX7_leftAtTheMost wsJ6_bitCount_0f7a4 := goodIn_r _ [46, 47, 48, 49] (by decide +kernel) (by decide +kernel)
set_option maxRecDepth 20000 in
theorem gX7_leftAtTheMost_J6_bitCount_0f7a4 : GoodIn wsX7_leftAtTheMost (va_wsS RX7 40 yJ6_bitCount_0f7a4 wsJ6_bitCount_0f7a4) := goodIn_app (goodIn_of _ (by decide +kernel)) ggX7_leftAtTheMost_J6_bitCount_0f7a4
theorem dX7_leftAtTheMost_0 : decode cX7_leftAtTheMost 0 = .ok (.iconst 0, 1) := by decide +kernel
theorem dX7_leftAtTheMost_1 : decode cX7_leftAtTheMost 1 = .ok (.istore 5, 2) := by decide +kernel
theorem dX7_leftAtTheMost_3 : decode cX7_leftAtTheMost 3 = .ok (.iconst 0, 1) := by decide +kernel
theorem dX7_leftAtTheMost_4 : decode cX7_leftAtTheMost 4 = .ok (.istore 6, 2) := by decide +kernel
theorem dX7_leftAtTheMost_6 : decode cX7_leftAtTheMost 6 = .ok (.iload 6, 2) := by decide +kernel
theorem dX7_leftAtTheMost_8 : decode cX7_leftAtTheMost 8 = .ok (.bipush 9, 2) := by decide +kernel
theorem dX7_leftAtTheMost_10 : decode cX7_leftAtTheMost 10 = .ok (.if_icmp .gt 31, 3) := by decide +kernel
theorem dX7_leftAtTheMost_13 : decode cX7_leftAtTheMost 13 = .ok (.iload_n 1, 1) := by decide +kernel
theorem dX7_leftAtTheMost_14 : decode cX7_leftAtTheMost 14 = .ok (.aload_n 2, 1) := by decide +kernel
theorem dX7_leftAtTheMost_15 : decode cX7_leftAtTheMost 15 = .ok (.iload_n 3, 1) := by decide +kernel
theorem dX7_leftAtTheMost_16 : decode cX7_leftAtTheMost 16 = .ok (.iload 6, 2) := by decide +kernel
theorem dX7_leftAtTheMost_18 : decode cX7_leftAtTheMost 18 = .ok (.iload 4, 2) := by decide +kernel
theorem dX7_leftAtTheMost_20 : decode cX7_leftAtTheMost 20 = .ok (.invokestatic 46, 3) := by decide +kernel
theorem dX7_leftAtTheMost_23 : decode cX7_leftAtTheMost 23 = .ok (.ifCond .eq 12, 3) := by decide +kernel
theorem dX7_leftAtTheMost_26 : decode cX7_leftAtTheMost 26 = .ok (.iload 5, 2) := by decide +kernel
theorem dX7_leftAtTheMost_28 : decode cX7_leftAtTheMost 28 = .ok (.iconst 1, 1) := by decide +kernel
theorem dX7_leftAtTheMost_29 : decode cX7_leftAtTheMost 29 = .ok (.iload 6, 2) := by decide +kernel
theorem dX7_leftAtTheMost_31 : decode cX7_leftAtTheMost 31 = .ok (.ishl, 1) := by decide +kernel
theorem dX7_leftAtTheMost_32 : decode cX7_leftAtTheMost 32 = .ok (.ior, 1) := by decide +kernel
theorem dX7_leftAtTheMost_33 : decode cX7_leftAtTheMost 33 = .ok (.istore 5, 2) := by decide +kernel
theorem dX7_leftAtTheMost_35 : decode cX7_leftAtTheMost 35 = .ok (.iinc 6 1, 3) := by decide +kernel
theorem dX7_leftAtTheMost_38 : decode cX7_leftAtTheMost 38 = .ok (.goto (-32), 3) := by decide +kernel
theorem dX7_leftAtTheMost_41 : decode cX7_leftAtTheMost 41 = .ok (.aload_n 0, 1) := by decide +kernel
theorem dX7_leftAtTheMost_42 : decode cX7_leftAtTheMost 42 = .ok (.getfield 9, 3) := by decide +kernel
theorem dX7_leftAtTheMost_45 : decode cX7_leftAtTheMost 45 = .ok (.iload_n 3, 1) := by decide +kernel
theorem dX7_leftAtTheMost_46 : decode cX7_leftAtTheMost 46 = .ok (.iaload, 1) := by decide +kernel
theorem dX7_leftAtTheMost_47 : decode cX7_leftAtTheMost 47 = .ok (.iload 5, 2) := by decide +kernel
theorem dX7_leftAtTheMost_49 : decode cX7_leftAtTheMost 49 = .ok (.iand, 1) := by decide +kernel
theorem dX7_leftAtTheMost_50 : decode cX7_leftAtTheMost 50 = .ok (.invokestatic 40, 3) := by decide +kernel
theorem dX7_leftAtTheMost_53 : decode cX7_leftAtTheMost 53 = .ok (.istore 6, 2) := by decide +kernel
theorem dX7_leftAtTheMost_55 : decode cX7_leftAtTheMost 55 = .ok (.iload 5, 2) := by decide +kernel
theorem dX7_leftAtTheMost_57 : decode cX7_leftAtTheMost 57 = .ok (.iconst 1, 1) := by decide +kernel
theorem dX7_leftAtTheMost_58 : decode cX7_leftAtTheMost 58 = .ok (.iand, 1) := by decide +kernel
theorem dX7_leftAtTheMost_59 : decode cX7_leftAtTheMost 59 = .ok (.ifCond .eq 22, 3) := by decide +kernel
theorem dX7_leftAtTheMost_62 : decode cX7_leftAtTheMost 62 = .ok (.iload 6, 2) := by decide +kernel
theorem dX7_leftAtTheMost_64 : decode cX7_leftAtTheMost 64 = .ok (.aload_n 0, 1) := by decide +kernel
theorem dX7_leftAtTheMost_65 : decode cX7_leftAtTheMost 65 = .ok (.getfield 23, 3) := by decide +kernel
theorem dX7_leftAtTheMost_68 : decode cX7_leftAtTheMost 68 = .ok (.aload_n 0, 1) := by decide +kernel
theorem dX7_leftAtTheMost_69 : decode cX7_leftAtTheMost 69 = .ok (.getfield 9, 3) := by decide +kernel
theorem dX7_leftAtTheMost_72 : decode cX7_leftAtTheMost 72 = .ok (.iload_n 3, 1) := by decide +kernel
theorem dX7_leftAtTheMost_73 : decode cX7_leftAtTheMost 73 = .ok (.iaload, 1) := by decide +kernel
theorem dX7_leftAtTheMost_74 : decode cX7_leftAtTheMost 74 = .ok (.invokestatic 40, 3) := by decide +kernel
theorem dX7_leftAtTheMost_77 : decode cX7_leftAtTheMost 77 = .ok (.isub, 1) := by decide +kernel
theorem dX7_leftAtTheMost_78 : decode cX7_leftAtTheMost 78 = .ok (.iadd, 1) := by decide +kernel
theorem dX7_leftAtTheMost_79 : decode cX7_leftAtTheMost 79 = .ok (.istore 6, 2) := by decide +kernel
theorem dX7_leftAtTheMost_81 : decode cX7_leftAtTheMost 81 = .ok (.iload 6, 2) := by decide +kernel
theorem dX7_leftAtTheMost_83 : decode cX7_leftAtTheMost 83 = .ok (.aload_n 0, 1) := by decide +kernel
theorem dX7_leftAtTheMost_84 : decode cX7_leftAtTheMost 84 = .ok (.getfield 23, 3) := by decide +kernel
theorem dX7_leftAtTheMost_87 : decode cX7_leftAtTheMost 87 = .ok (.iload 6, 2) := by decide +kernel
theorem dX7_leftAtTheMost_89 : decode cX7_leftAtTheMost 89 = .ok (.isub, 1) := by decide +kernel
theorem dX7_leftAtTheMost_90 : decode cX7_leftAtTheMost 90 = .ok (.invokestatic 50, 3) := by decide +kernel
theorem dX7_leftAtTheMost_93 : decode cX7_leftAtTheMost 93 = .ok (.ireturn, 1) := by decide +kernel
set_option maxRecDepth 20000 in
theorem ggX7_monksSeenOtherwise_X7_isSo : GoodIn wsX7_monksSeenOtherwise wsX7_isSo := goodIn_r _ [6, 2, 7, 8, 9, 10, 5, 11, 12, 13, 14, 15, 16, 17, 18, 19, 20, 21, 22, 23, 24, 25, 26, 27, 28, 29, 30, 31, 32, 33, 34, 35, 36, 37, 38, 39, 40, 41, 42, 43, 44, 45, 46, 47, 48, 49, 50, 51, 52, 53, 54, 55, 56] (by decide +kernel) (by decide +kernel)
set_option maxRecDepth 20000 in
theorem gX7_monksSeenOtherwise_X7_isSo : GoodIn wsX7_monksSeenOtherwise (va_wsS RX7 59 yX7_isSo wsX7_isSo) := goodIn_app (goodIn_of _ (by decide +kernel)) ggX7_monksSeenOtherwise_X7_isSo
theorem dX7_monksSeenOtherwise_0 : decode cX7_monksSeenOtherwise 0 = .ok (.iconst 0, 1) := by decide +kernel
theorem dX7_monksSeenOtherwise_1 : decode cX7_monksSeenOtherwise 1 = .ok (.istore_n 3, 1) := by decide +kernel
theorem dX7_monksSeenOtherwise_2 : decode cX7_monksSeenOtherwise 2 = .ok (.iconst 0, 1) := by decide +kernel
theorem dX7_monksSeenOtherwise_3 : decode cX7_monksSeenOtherwise 3 = .ok (.istore 4, 2) := by decide +kernel
theorem dX7_monksSeenOtherwise_5 : decode cX7_monksSeenOtherwise 5 = .ok (.iload 4, 2) := by decide +kernel
theorem dX7_monksSeenOtherwise_7 : decode cX7_monksSeenOtherwise 7 = .ok (.aload_n 2, 1) := by decide +kernel
theorem dX7_monksSeenOtherwise_8 : decode cX7_monksSeenOtherwise 8 = .ok (.getfield 56, 3) := by decide +kernel
theorem dX7_monksSeenOtherwise_11 : decode cX7_monksSeenOtherwise 11 = .ok (.if_icmp .ge 33, 3) := by decide +kernel
theorem dX7_monksSeenOtherwise_14 : decode cX7_monksSeenOtherwise 14 = .ok (.iload_n 0, 1) := by decide +kernel
theorem dX7_monksSeenOtherwise_15 : decode cX7_monksSeenOtherwise 15 = .ok (.aload_n 1, 1) := by decide +kernel
theorem dX7_monksSeenOtherwise_16 : decode cX7_monksSeenOtherwise 16 = .ok (.aload_n 2, 1) := by decide +kernel
theorem dX7_monksSeenOtherwise_17 : decode cX7_monksSeenOtherwise 17 = .ok (.iload 4, 2) := by decide +kernel
theorem dX7_monksSeenOtherwise_19 : decode cX7_monksSeenOtherwise 19 = .ok (.iconst 0, 1) := by decide +kernel
theorem dX7_monksSeenOtherwise_20 : decode cX7_monksSeenOtherwise 20 = .ok (.invokestatic 59, 3) := by decide +kernel
theorem dX7_monksSeenOtherwise_23 : decode cX7_monksSeenOtherwise 23 = .ok (.ifCond .ne 15, 3) := by decide +kernel
theorem dX7_monksSeenOtherwise_26 : decode cX7_monksSeenOtherwise 26 = .ok (.iload_n 3, 1) := by decide +kernel
theorem dX7_monksSeenOtherwise_27 : decode cX7_monksSeenOtherwise 27 = .ok (.iconst 1, 1) := by decide +kernel
theorem dX7_monksSeenOtherwise_28 : decode cX7_monksSeenOtherwise 28 = .ok (.aload_n 2, 1) := by decide +kernel
theorem dX7_monksSeenOtherwise_29 : decode cX7_monksSeenOtherwise 29 = .ok (.getfield 63, 3) := by decide +kernel
theorem dX7_monksSeenOtherwise_32 : decode cX7_monksSeenOtherwise 32 = .ok (.iload 4, 2) := by decide +kernel
theorem dX7_monksSeenOtherwise_34 : decode cX7_monksSeenOtherwise 34 = .ok (.iaload, 1) := by decide +kernel
theorem dX7_monksSeenOtherwise_35 : decode cX7_monksSeenOtherwise 35 = .ok (.ishl, 1) := by decide +kernel
theorem dX7_monksSeenOtherwise_36 : decode cX7_monksSeenOtherwise 36 = .ok (.ior, 1) := by decide +kernel
theorem dX7_monksSeenOtherwise_37 : decode cX7_monksSeenOtherwise 37 = .ok (.istore_n 3, 1) := by decide +kernel
theorem dX7_monksSeenOtherwise_38 : decode cX7_monksSeenOtherwise 38 = .ok (.iinc 4 1, 3) := by decide +kernel
theorem dX7_monksSeenOtherwise_41 : decode cX7_monksSeenOtherwise 41 = .ok (.goto (-36), 3) := by decide +kernel
theorem dX7_monksSeenOtherwise_44 : decode cX7_monksSeenOtherwise 44 = .ok (.iload_n 3, 1) := by decide +kernel
theorem dX7_monksSeenOtherwise_45 : decode cX7_monksSeenOtherwise 45 = .ok (.ireturn, 1) := by decide +kernel
set_option maxRecDepth 20000 in
theorem ggX7_fittingSkips_X7_isSo : GoodIn wsX7_fittingSkips wsX7_isSo := goodIn_r _ [6, 2, 7, 8, 9, 10, 5, 11, 12, 13, 14, 15, 16, 17, 18, 19, 20, 21, 22, 23, 24, 25, 26, 27, 28, 29, 30, 31, 32, 33, 34, 35, 36, 37, 38, 39, 40, 41, 42, 43, 44, 45, 46, 47, 48, 49, 50, 51, 52, 53, 54, 55, 56] (by decide +kernel) (by decide +kernel)
set_option maxRecDepth 20000 in
theorem gX7_fittingSkips_X7_isSo : GoodIn wsX7_fittingSkips (va_wsS RX7 59 yX7_isSo wsX7_isSo) := goodIn_app (goodIn_of _ (by decide +kernel)) ggX7_fittingSkips_X7_isSo
theorem dX7_fittingSkips_0 : decode cX7_fittingSkips 0 = .ok (.iconst 0, 1) := by decide +kernel
theorem dX7_fittingSkips_1 : decode cX7_fittingSkips 1 = .ok (.istore 4, 2) := by decide +kernel
theorem dX7_fittingSkips_3 : decode cX7_fittingSkips 3 = .ok (.iconst 1, 1) := by decide +kernel
theorem dX7_fittingSkips_4 : decode cX7_fittingSkips 4 = .ok (.istore 5, 2) := by decide +kernel
theorem dX7_fittingSkips_6 : decode cX7_fittingSkips 6 = .ok (.iload 5, 2) := by decide +kernel
theorem dX7_fittingSkips_8 : decode cX7_fittingSkips 8 = .ok (.bipush 9, 2) := by decide +kernel
theorem dX7_fittingSkips_10 : decode cX7_fittingSkips 10 = .ok (.if_icmp .gt 80, 3) := by decide +kernel
theorem dX7_fittingSkips_13 : decode cX7_fittingSkips 13 = .ok (.iconst 1, 1) := by decide +kernel
theorem dX7_fittingSkips_14 : decode cX7_fittingSkips 14 = .ok (.istore 6, 2) := by decide +kernel
theorem dX7_fittingSkips_16 : decode cX7_fittingSkips 16 = .ok (.iconst 0, 1) := by decide +kernel
theorem dX7_fittingSkips_17 : decode cX7_fittingSkips 17 = .ok (.istore 7, 2) := by decide +kernel
theorem dX7_fittingSkips_19 : decode cX7_fittingSkips 19 = .ok (.iload 7, 2) := by decide +kernel
theorem dX7_fittingSkips_21 : decode cX7_fittingSkips 21 = .ok (.aload_n 2, 1) := by decide +kernel
theorem dX7_fittingSkips_22 : decode cX7_fittingSkips 22 = .ok (.getfield 56, 3) := by decide +kernel
theorem dX7_fittingSkips_25 : decode cX7_fittingSkips 25 = .ok (.if_icmp .ge 45, 3) := by decide +kernel
theorem dX7_fittingSkips_28 : decode cX7_fittingSkips 28 = .ok (.iload 6, 2) := by decide +kernel
theorem dX7_fittingSkips_30 : decode cX7_fittingSkips 30 = .ok (.ifCond .eq 40, 3) := by decide +kernel
theorem dX7_fittingSkips_33 : decode cX7_fittingSkips 33 = .ok (.aload_n 2, 1) := by decide +kernel
theorem dX7_fittingSkips_34 : decode cX7_fittingSkips 34 = .ok (.getfield 63, 3) := by decide +kernel
theorem dX7_fittingSkips_37 : decode cX7_fittingSkips 37 = .ok (.iload 7, 2) := by decide +kernel
theorem dX7_fittingSkips_39 : decode cX7_fittingSkips 39 = .ok (.iaload, 1) := by decide +kernel
theorem dX7_fittingSkips_40 : decode cX7_fittingSkips 40 = .ok (.iload_n 3, 1) := by decide +kernel
theorem dX7_fittingSkips_41 : decode cX7_fittingSkips 41 = .ok (.if_icmp .ne 16, 3) := by decide +kernel
theorem dX7_fittingSkips_44 : decode cX7_fittingSkips 44 = .ok (.iload_n 0, 1) := by decide +kernel
theorem dX7_fittingSkips_45 : decode cX7_fittingSkips 45 = .ok (.aload_n 1, 1) := by decide +kernel
theorem dX7_fittingSkips_46 : decode cX7_fittingSkips 46 = .ok (.aload_n 2, 1) := by decide +kernel
theorem dX7_fittingSkips_47 : decode cX7_fittingSkips 47 = .ok (.iload 7, 2) := by decide +kernel
theorem dX7_fittingSkips_49 : decode cX7_fittingSkips 49 = .ok (.iload 5, 2) := by decide +kernel
theorem dX7_fittingSkips_51 : decode cX7_fittingSkips 51 = .ok (.invokestatic 59, 3) := by decide +kernel
theorem dX7_fittingSkips_54 : decode cX7_fittingSkips 54 = .ok (.ifCond .eq 7, 3) := by decide +kernel
theorem dX7_fittingSkips_57 : decode cX7_fittingSkips 57 = .ok (.iconst 1, 1) := by decide +kernel
theorem dX7_fittingSkips_58 : decode cX7_fittingSkips 58 = .ok (.goto 4, 3) := by decide +kernel
theorem dX7_fittingSkips_61 : decode cX7_fittingSkips 61 = .ok (.iconst 0, 1) := by decide +kernel
theorem dX7_fittingSkips_62 : decode cX7_fittingSkips 62 = .ok (.istore 6, 2) := by decide +kernel
theorem dX7_fittingSkips_64 : decode cX7_fittingSkips 64 = .ok (.iinc 7 1, 3) := by decide +kernel
theorem dX7_fittingSkips_67 : decode cX7_fittingSkips 67 = .ok (.goto (-48), 3) := by decide +kernel
theorem dX7_fittingSkips_70 : decode cX7_fittingSkips 70 = .ok (.iload 6, 2) := by decide +kernel
theorem dX7_fittingSkips_72 : decode cX7_fittingSkips 72 = .ok (.ifCond .eq 12, 3) := by decide +kernel
theorem dX7_fittingSkips_75 : decode cX7_fittingSkips 75 = .ok (.iload 4, 2) := by decide +kernel
theorem dX7_fittingSkips_77 : decode cX7_fittingSkips 77 = .ok (.iconst 1, 1) := by decide +kernel
theorem dX7_fittingSkips_78 : decode cX7_fittingSkips 78 = .ok (.iload 5, 2) := by decide +kernel
theorem dX7_fittingSkips_80 : decode cX7_fittingSkips 80 = .ok (.ishl, 1) := by decide +kernel
theorem dX7_fittingSkips_81 : decode cX7_fittingSkips 81 = .ok (.ior, 1) := by decide +kernel
theorem dX7_fittingSkips_82 : decode cX7_fittingSkips 82 = .ok (.istore 4, 2) := by decide +kernel
theorem dX7_fittingSkips_84 : decode cX7_fittingSkips 84 = .ok (.iinc 5 1, 3) := by decide +kernel
theorem dX7_fittingSkips_87 : decode cX7_fittingSkips 87 = .ok (.goto (-81), 3) := by decide +kernel
theorem dX7_fittingSkips_90 : decode cX7_fittingSkips 90 = .ok (.iload 4, 2) := by decide +kernel
theorem dX7_fittingSkips_92 : decode cX7_fittingSkips 92 = .ok (.ireturn, 1) := by decide +kernel
set_option maxRecDepth 20000 in
theorem ggX7_isSo_X7_bowsThen : GoodIn wsX7_isSo wsX7_bowsThen := goodIn_r _ [7, 8, 9, 10, 11, 12, 13, 14, 15, 16, 17, 18, 19, 20, 21, 22, 23, 24, 25, 26, 27, 28, 29, 30, 31, 32, 33, 34, 35, 36, 37, 38, 39, 40, 41, 42, 47, 48, 49, 50, 51, 52] (by decide +kernel) (by decide +kernel)
set_option maxRecDepth 20000 in
theorem gX7_isSo_X7_bowsThen : GoodIn wsX7_isSo (va_wsS RX7 46 yX7_bowsThen wsX7_bowsThen) := goodIn_app (goodIn_of _ (by decide +kernel)) ggX7_isSo_X7_bowsThen
theorem dX7_isSo_0 : decode cX7_isSo 0 = .ok (.iload_n 0, 1) := by decide +kernel
theorem dX7_isSo_1 : decode cX7_isSo 1 = .ok (.aload_n 1, 1) := by decide +kernel
theorem dX7_isSo_2 : decode cX7_isSo 2 = .ok (.aload_n 2, 1) := by decide +kernel
theorem dX7_isSo_3 : decode cX7_isSo 3 = .ok (.getfield 63, 3) := by decide +kernel
theorem dX7_isSo_6 : decode cX7_isSo 6 = .ok (.iload_n 3, 1) := by decide +kernel
theorem dX7_isSo_7 : decode cX7_isSo 7 = .ok (.iaload, 1) := by decide +kernel
theorem dX7_isSo_8 : decode cX7_isSo 8 = .ok (.iload 4, 2) := by decide +kernel
theorem dX7_isSo_10 : decode cX7_isSo 10 = .ok (.aload_n 2, 1) := by decide +kernel
theorem dX7_isSo_11 : decode cX7_isSo 11 = .ok (.getfield 66, 3) := by decide +kernel
theorem dX7_isSo_14 : decode cX7_isSo 14 = .ok (.iload_n 3, 1) := by decide +kernel
theorem dX7_isSo_15 : decode cX7_isSo 15 = .ok (.iaload, 1) := by decide +kernel
theorem dX7_isSo_16 : decode cX7_isSo 16 = .ok (.invokestatic 46, 3) := by decide +kernel
theorem dX7_isSo_19 : decode cX7_isSo 19 = .ok (.aload_n 2, 1) := by decide +kernel
theorem dX7_isSo_20 : decode cX7_isSo 20 = .ok (.getfield 69, 3) := by decide +kernel
theorem dX7_isSo_23 : decode cX7_isSo 23 = .ok (.iload_n 3, 1) := by decide +kernel
theorem dX7_isSo_24 : decode cX7_isSo 24 = .ok (.baload, 1) := by decide +kernel
theorem dX7_isSo_25 : decode cX7_isSo 25 = .ok (.if_icmp .ne 7, 3) := by decide +kernel
theorem dX7_isSo_28 : decode cX7_isSo 28 = .ok (.iconst 1, 1) := by decide +kernel
theorem dX7_isSo_29 : decode cX7_isSo 29 = .ok (.goto 4, 3) := by decide +kernel
theorem dX7_isSo_32 : decode cX7_isSo 32 = .ok (.iconst 0, 1) := by decide +kernel
theorem dX7_isSo_33 : decode cX7_isSo 33 = .ok (.ireturn, 1) := by decide +kernel
set_option maxRecDepth 20000 in
theorem ggX7_bowsThen_X2_isAwake : GoodIn wsX7_bowsThen wsX2_isAwake := goodIn_r _ [5, 6, 36, 37, 38, 39, 40, 41] (by decide +kernel) (by decide +kernel)
set_option maxRecDepth 20000 in
theorem gX7_bowsThen_X2_isAwake : GoodIn wsX7_bowsThen (wsV RX7 30 RX2 yX2_isAwake wsX2_isAwake) := goodIn_app (goodIn_of _ (by decide +kernel)) ggX7_bowsThen_X2_isAwake
set_option maxRecDepth 20000 in
theorem ggX7_bowsThen_X2_countBehind : GoodIn wsX7_bowsThen wsX2_countBehind := goodIn_r _ [10, 11, 12, 13, 14, 15, 16, 36, 37, 38, 39, 40, 41] (by decide +kernel) (by decide +kernel)
set_option maxRecDepth 20000 in
theorem gX7_bowsThen_X2_countBehind : GoodIn wsX7_bowsThen (wsV RX7 73 RX2 yX2_countBehind wsX2_countBehind) := goodIn_app (goodIn_of _ (by decide +kernel)) ggX7_bowsThen_X2_countBehind
set_option maxRecDepth 20000 in
theorem ggX7_bowsThen_X4_bowAt : GoodIn wsX7_bowsThen wsX4_bowAt := goodIn_r _ [20, 21, 22, 19, 23, 24, 25, 26, 27, 28, 29, 30, 31, 32, 33, 34, 35] (by decide +kernel) (by decide +kernel)
set_option maxRecDepth 20000 in
theorem gX7_bowsThen_X4_bowAt : GoodIn wsX7_bowsThen (va_wsS RX7 77 yX4_bowAt wsX4_bowAt) := goodIn_app (goodIn_of _ (by decide +kernel)) ggX7_bowsThen_X4_bowAt
theorem dX7_bowsThen_0 : decode cX7_bowsThen 0 = .ok (.aload_n 1, 1) := by decide +kernel
theorem dX7_bowsThen_1 : decode cX7_bowsThen 1 = .ok (.iload_n 2, 1) := by decide +kernel
theorem dX7_bowsThen_2 : decode cX7_bowsThen 2 = .ok (.invokevirtual 30, 3) := by decide +kernel
theorem dX7_bowsThen_5 : decode cX7_bowsThen 5 = .ok (.ifCond .eq 22, 3) := by decide +kernel
theorem dX7_bowsThen_8 : decode cX7_bowsThen 8 = .ok (.iload_n 0, 1) := by decide +kernel
theorem dX7_bowsThen_9 : decode cX7_bowsThen 9 = .ok (.aload_n 1, 1) := by decide +kernel
theorem dX7_bowsThen_10 : decode cX7_bowsThen 10 = .ok (.iload_n 2, 1) := by decide +kernel
theorem dX7_bowsThen_11 : decode cX7_bowsThen 11 = .ok (.iload_n 3, 1) := by decide +kernel
theorem dX7_bowsThen_12 : decode cX7_bowsThen 12 = .ok (.iload 4, 2) := by decide +kernel
theorem dX7_bowsThen_14 : decode cX7_bowsThen 14 = .ok (.invokevirtual 73, 3) := by decide +kernel
theorem dX7_bowsThen_17 : decode cX7_bowsThen 17 = .ok (.invokestatic 77, 3) := by decide +kernel
theorem dX7_bowsThen_20 : decode cX7_bowsThen 20 = .ok (.ifCond .eq 7, 3) := by decide +kernel
theorem dX7_bowsThen_23 : decode cX7_bowsThen 23 = .ok (.iconst 1, 1) := by decide +kernel
theorem dX7_bowsThen_24 : decode cX7_bowsThen 24 = .ok (.goto 4, 3) := by decide +kernel
theorem dX7_bowsThen_27 : decode cX7_bowsThen 27 = .ok (.iconst 0, 1) := by decide +kernel
theorem dX7_bowsThen_28 : decode cX7_bowsThen 28 = .ok (.ireturn, 1) := by decide +kernel
set_option maxRecDepth 20000 in
theorem ggX8_init_X2_init : GoodIn wsX8_init wsX2_init := goodIn_r _ [9, 10, 2, 3, 11, 12, 13, 14, 15, 16, 17, 18, 19, 20, 21, 22] (by decide +kernel) (by decide +kernel)
set_option maxRecDepth 20000 in
theorem gX8_init_X2_init_n11 : GoodIn wsX8_init (wsX2_init) := ggX8_init_X2_init
theorem dX8_init_0 : decode cX8_init 0 = .ok (.aload_n 0, 1) := by decide +kernel
theorem dX8_init_1 : decode cX8_init 1 = .ok (.invokespecial 3, 3) := by decide +kernel
theorem dX8_init_4 : decode cX8_init 4 = .ok (.aload_n 0, 1) := by decide +kernel
theorem dX8_init_5 : decode cX8_init 5 = .ok (.new 9, 3) := by decide +kernel
theorem dX8_init_8 : decode cX8_init 8 = .ok (.dup, 1) := by decide +kernel
theorem dX8_init_9 : decode cX8_init 9 = .ok (.invokespecial 11, 3) := by decide +kernel
theorem dX8_init_12 : decode cX8_init 12 = .ok (.putfield 12, 3) := by decide +kernel
theorem dX8_init_15 : decode cX8_init 15 = .ok (.return_, 1) := by decide +kernel
set_option maxRecDepth 20000 in
theorem ggX8_pass_X2_copyFrom : GoodIn wsX8_pass wsX2_copyFrom := goodIn_r _ [8, 9, 10, 11, 12, 13, 14, 15, 16, 17, 18, 104, 105, 106, 107, 108, 109] (by decide +kernel) (by decide +kernel)
set_option maxRecDepth 20000 in
theorem gX8_pass_X2_copyFrom : GoodIn wsX8_pass (wsV RX8 18 RX2 yX2_copyFrom wsX2_copyFrom) := goodIn_app (goodIn_of _ (by decide +kernel)) ggX8_pass_X2_copyFrom
set_option maxRecDepth 20000 in
theorem ggX8_pass_X2_atNought : GoodIn wsX8_pass wsX2_atNought := goodIn_r _ [22, 13, 23, 24, 25, 7, 26, 9, 104, 105, 106, 107, 108, 109] (by decide +kernel) (by decide +kernel)
set_option maxRecDepth 20000 in
theorem gX8_pass_X2_atNought : GoodIn wsX8_pass (wsV RX8 27 RX2 yX2_atNought wsX2_atNought) := goodIn_app (goodIn_of _ (by decide +kernel)) ggX8_pass_X2_atNought
set_option maxRecDepth 20000 in
theorem ggX8_pass_X8_monkDrawn : GoodIn wsX8_pass wsX8_monkDrawn := goodIn_r _ [30, 31, 32, 33] (by decide +kernel) (by decide +kernel)
set_option maxRecDepth 20000 in
theorem gX8_pass_X8_monkDrawn : GoodIn wsX8_pass (va_wsS RX8 31 yX8_monkDrawn wsX8_monkDrawn) := goodIn_app (goodIn_of _ (by decide +kernel)) ggX8_pass_X8_monkDrawn
set_option maxRecDepth 20000 in
theorem ggX8_pass_X8_signDrawn : GoodIn wsX8_pass wsX8_signDrawn := goodIn_r _ [36] (by decide +kernel) (by decide +kernel)
set_option maxRecDepth 20000 in
theorem gX8_pass_X8_signDrawn : GoodIn wsX8_pass (va_wsS RX8 35 yX8_signDrawn wsX8_signDrawn) := goodIn_app (goodIn_of _ (by decide +kernel)) ggX8_pass_X8_signDrawn
set_option maxRecDepth 20000 in
theorem ggX8_pass_X8_passAct : GoodIn wsX8_pass wsX8_passAct := goodIn_r _ [40, 1, 41, 42, 43, 7, 44, 10, 23, 24, 25, 26, 9, 45, 46, 47, 48, 49, 32, 50, 51, 52, 53, 54, 55, 56, 57, 58, 59, 60, 61, 62, 13, 11, 63, 64, 65, 66, 67, 68, 69, 70, 71, 72, 73, 74, 18, 75, 76, 77, 78, 79, 80, 81, 82, 83, 84, 85, 86, 87, 88, 89, 90, 91, 92, 93, 94, 95, 96, 97, 98, 99, 100, 101, 102, 103, 104, 105, 106, 107, 108, 109] (by decide +kernel) (by decide +kernel)
set_option maxRecDepth 20000 in
theorem gX8_pass_X8_passAct : GoodIn wsX8_pass (wsV RX8 38 RX8 yX8_passAct wsX8_passAct) := goodIn_app (goodIn_of _ (by decide +kernel)) ggX8_pass_X8_passAct
theorem dX8_pass_0 : decode cX8_pass 0 = .ok (.aload_n 0, 1) := by decide +kernel
theorem dX8_pass_1 : decode cX8_pass 1 = .ok (.getfield 12, 3) := by decide +kernel
theorem dX8_pass_4 : decode cX8_pass 4 = .ok (.aload_n 1, 1) := by decide +kernel
theorem dX8_pass_5 : decode cX8_pass 5 = .ok (.invokevirtual 18, 3) := by decide +kernel
theorem dX8_pass_8 : decode cX8_pass 8 = .ok (.aload_n 0, 1) := by decide +kernel
theorem dX8_pass_9 : decode cX8_pass 9 = .ok (.iconst 0, 1) := by decide +kernel
theorem dX8_pass_10 : decode cX8_pass 10 = .ok (.putfield 22, 3) := by decide +kernel
theorem dX8_pass_13 : decode cX8_pass 13 = .ok (.iload_n 2, 1) := by decide +kernel
theorem dX8_pass_14 : decode cX8_pass 14 = .ok (.istore 4, 2) := by decide +kernel
theorem dX8_pass_16 : decode cX8_pass 16 = .ok (.iconst 0, 1) := by decide +kernel
theorem dX8_pass_17 : decode cX8_pass 17 = .ok (.istore 5, 2) := by decide +kernel
theorem dX8_pass_19 : decode cX8_pass 19 = .ok (.iload 5, 2) := by decide +kernel
theorem dX8_pass_21 : decode cX8_pass 21 = .ok (.iload_n 3, 1) := by decide +kernel
theorem dX8_pass_22 : decode cX8_pass 22 = .ok (.if_icmp .ge 70, 3) := by decide +kernel
theorem dX8_pass_25 : decode cX8_pass 25 = .ok (.bipush 75, 2) := by decide +kernel
theorem dX8_pass_27 : decode cX8_pass 27 = .ok (.iload 4, 2) := by decide +kernel
theorem dX8_pass_29 : decode cX8_pass 29 = .ok (.imul, 1) := by decide +kernel
theorem dX8_pass_30 : decode cX8_pass 30 = .ok (.bipush 74, 2) := by decide +kernel
theorem dX8_pass_32 : decode cX8_pass 32 = .ok (.iadd, 1) := by decide +kernel
theorem dX8_pass_33 : decode cX8_pass 33 = .ok (.ldc 26, 2) := by decide +kernel
theorem dX8_pass_35 : decode cX8_pass 35 = .ok (.irem, 1) := by decide +kernel
theorem dX8_pass_36 : decode cX8_pass 36 = .ok (.istore 4, 2) := by decide +kernel
theorem dX8_pass_38 : decode cX8_pass 38 = .ok (.aload_n 0, 1) := by decide +kernel
theorem dX8_pass_39 : decode cX8_pass 39 = .ok (.getfield 12, 3) := by decide +kernel
theorem dX8_pass_42 : decode cX8_pass 42 = .ok (.invokevirtual 27, 3) := by decide +kernel
theorem dX8_pass_45 : decode cX8_pass 45 = .ok (.istore 6, 2) := by decide +kernel
theorem dX8_pass_47 : decode cX8_pass 47 = .ok (.aload_n 0, 1) := by decide +kernel
theorem dX8_pass_48 : decode cX8_pass 48 = .ok (.iload 4, 2) := by decide +kernel
theorem dX8_pass_50 : decode cX8_pass 50 = .ok (.invokestatic 31, 3) := by decide +kernel
theorem dX8_pass_53 : decode cX8_pass 53 = .ok (.iload 4, 2) := by decide +kernel
theorem dX8_pass_55 : decode cX8_pass 55 = .ok (.invokestatic 35, 3) := by decide +kernel
theorem dX8_pass_58 : decode cX8_pass 58 = .ok (.invokevirtual 38, 3) := by decide +kernel
theorem dX8_pass_61 : decode cX8_pass 61 = .ok (.aload_n 0, 1) := by decide +kernel
theorem dX8_pass_62 : decode cX8_pass 62 = .ok (.getfield 12, 3) := by decide +kernel
theorem dX8_pass_65 : decode cX8_pass 65 = .ok (.invokevirtual 27, 3) := by decide +kernel
theorem dX8_pass_68 : decode cX8_pass 68 = .ok (.iload 6, 2) := by decide +kernel
theorem dX8_pass_70 : decode cX8_pass 70 = .ok (.iconst (-1), 1) := by decide +kernel
theorem dX8_pass_71 : decode cX8_pass 71 = .ok (.ixor, 1) := by decide +kernel
theorem dX8_pass_72 : decode cX8_pass 72 = .ok (.iand, 1) := by decide +kernel
theorem dX8_pass_73 : decode cX8_pass 73 = .ok (.ifCond .eq 13, 3) := by decide +kernel
theorem dX8_pass_76 : decode cX8_pass 76 = .ok (.aload_n 0, 1) := by decide +kernel
theorem dX8_pass_77 : decode cX8_pass 77 = .ok (.dup, 1) := by decide +kernel
theorem dX8_pass_78 : decode cX8_pass 78 = .ok (.getfield 22, 3) := by decide +kernel
theorem dX8_pass_81 : decode cX8_pass 81 = .ok (.iconst 1, 1) := by decide +kernel
theorem dX8_pass_82 : decode cX8_pass 82 = .ok (.iadd, 1) := by decide +kernel
theorem dX8_pass_83 : decode cX8_pass 83 = .ok (.putfield 22, 3) := by decide +kernel
theorem dX8_pass_86 : decode cX8_pass 86 = .ok (.iinc 5 1, 3) := by decide +kernel
theorem dX8_pass_89 : decode cX8_pass 89 = .ok (.goto (-70), 3) := by decide +kernel
theorem dX8_pass_92 : decode cX8_pass 92 = .ok (.return_, 1) := by decide +kernel
set_option maxRecDepth 20000 in
theorem ggX8_passAct_X2_whyNot : GoodIn wsX8_passAct wsX2_whyNot := goodIn_r _ [6, 7, 8, 9, 10, 5, 11, 12, 13, 14, 15, 16, 17, 18, 19, 20, 21, 22, 23, 24, 25, 26, 27, 76, 77, 78, 79, 80, 81] (by decide +kernel) (by decide +kernel)
set_option maxRecDepth 20000 in
theorem gX8_passAct_X2_whyNot : GoodIn wsX8_passAct (wsV RX8 42 RX2 yX2_whyNot wsX2_whyNot) := goodIn_app (goodIn_of _ (by decide +kernel)) ggX8_passAct_X2_whyNot
set_option maxRecDepth 20000 in
theorem ggX8_passAct_X2_act : GoodIn wsX8_passAct wsX2_act := goodIn_r _ [31, 7, 32, 33, 34, 35, 36, 37, 38, 39, 40, 5, 41, 24, 25, 26, 27, 42, 43, 44, 45, 46, 47, 48, 49, 50, 51, 52, 53, 54, 55, 56, 57, 58, 59, 60, 61, 62, 63, 64, 65, 66, 67, 68, 69, 70, 71, 72, 73, 76, 77, 78, 79, 80, 81] (by decide +kernel) (by decide +kernel)
set_option maxRecDepth 20000 in
theorem gX8_passAct_X2_act : GoodIn wsX8_passAct (wsV RX8 46 RX2 yX2_act wsX2_act) := goodIn_app (goodIn_of _ (by decide +kernel)) ggX8_passAct_X2_act
theorem dX8_passAct_0 : decode cX8_passAct 0 = .ok (.aload_n 0, 1) := by decide +kernel
theorem dX8_passAct_1 : decode cX8_passAct 1 = .ok (.getfield 12, 3) := by decide +kernel
theorem dX8_passAct_4 : decode cX8_passAct 4 = .ok (.iload_n 1, 1) := by decide +kernel
theorem dX8_passAct_5 : decode cX8_passAct 5 = .ok (.iload_n 2, 1) := by decide +kernel
theorem dX8_passAct_6 : decode cX8_passAct 6 = .ok (.invokevirtual 42, 3) := by decide +kernel
theorem dX8_passAct_9 : decode cX8_passAct 9 = .ok (.ifCond .ne 12, 3) := by decide +kernel
theorem dX8_passAct_12 : decode cX8_passAct 12 = .ok (.aload_n 0, 1) := by decide +kernel
theorem dX8_passAct_13 : decode cX8_passAct 13 = .ok (.getfield 12, 3) := by decide +kernel
theorem dX8_passAct_16 : decode cX8_passAct 16 = .ok (.iload_n 1, 1) := by decide +kernel
theorem dX8_passAct_17 : decode cX8_passAct 17 = .ok (.iload_n 2, 1) := by decide +kernel
theorem dX8_passAct_18 : decode cX8_passAct 18 = .ok (.invokevirtual 46, 3) := by decide +kernel
theorem dX8_passAct_21 : decode cX8_passAct 21 = .ok (.return_, 1) := by decide +kernel
set_option maxRecDepth 20000 in
theorem ggX8_monkDrawn_X9_isWithin : GoodIn wsX8_monkDrawn wsX9_isWithin := goodIn_r _ [3] (by decide +kernel) (by decide +kernel)
set_option maxRecDepth 20000 in
theorem gX8_monkDrawn_X9_isWithin_n49 : GoodIn wsX8_monkDrawn (wsX9_isWithin) := ggX8_monkDrawn_X9_isWithin
theorem dX8_monkDrawn_0 : decode cX8_monkDrawn 0 = .ok (.iload_n 0, 1) := by decide +kernel
theorem dX8_monkDrawn_1 : decode cX8_monkDrawn 1 = .ok (.bipush 8, 2) := by decide +kernel
theorem dX8_monkDrawn_3 : decode cX8_monkDrawn 3 = .ok (.irem, 1) := by decide +kernel
theorem dX8_monkDrawn_4 : decode cX8_monkDrawn 4 = .ok (.iconst 2, 1) := by decide +kernel
theorem dX8_monkDrawn_5 : decode cX8_monkDrawn 5 = .ok (.iconst 5, 1) := by decide +kernel
theorem dX8_monkDrawn_6 : decode cX8_monkDrawn 6 = .ok (.invokestatic 49, 3) := by decide +kernel
theorem dX8_monkDrawn_9 : decode cX8_monkDrawn 9 = .ok (.ifCond .eq 13, 3) := by decide +kernel
theorem dX8_monkDrawn_12 : decode cX8_monkDrawn 12 = .ok (.iload_n 0, 1) := by decide +kernel
theorem dX8_monkDrawn_13 : decode cX8_monkDrawn 13 = .ok (.bipush 8, 2) := by decide +kernel
theorem dX8_monkDrawn_15 : decode cX8_monkDrawn 15 = .ok (.idiv, 1) := by decide +kernel
theorem dX8_monkDrawn_16 : decode cX8_monkDrawn 16 = .ok (.bipush 8, 2) := by decide +kernel
theorem dX8_monkDrawn_18 : decode cX8_monkDrawn 18 = .ok (.irem, 1) := by decide +kernel
theorem dX8_monkDrawn_19 : decode cX8_monkDrawn 19 = .ok (.goto 4, 3) := by decide +kernel
theorem dX8_monkDrawn_22 : decode cX8_monkDrawn 22 = .ok (.iconst (-1), 1) := by decide +kernel
theorem dX8_monkDrawn_23 : decode cX8_monkDrawn 23 = .ok (.ireturn, 1) := by decide +kernel
theorem dX8_signDrawn_0 : decode cX8_signDrawn 0 = .ok (.iload_n 0, 1) := by decide +kernel
theorem dX8_signDrawn_1 : decode cX8_signDrawn 1 = .ok (.bipush 8, 2) := by decide +kernel
theorem dX8_signDrawn_3 : decode cX8_signDrawn 3 = .ok (.irem, 1) := by decide +kernel
theorem dX8_signDrawn_4 : decode cX8_signDrawn 4 = .ok (.tableswitch 66 0 5 #[40, 43, 46, 49, 52, 63], 40) := by decide +kernel
theorem dX8_signDrawn_44 : decode cX8_signDrawn 44 = .ok (.bipush 33, 2) := by decide +kernel
theorem dX8_signDrawn_46 : decode cX8_signDrawn 46 = .ok (.ireturn, 1) := by decide +kernel
theorem dX8_signDrawn_47 : decode cX8_signDrawn 47 = .ok (.bipush 42, 2) := by decide +kernel
theorem dX8_signDrawn_49 : decode cX8_signDrawn 49 = .ok (.ireturn, 1) := by decide +kernel
theorem dX8_signDrawn_50 : decode cX8_signDrawn 50 = .ok (.bipush 107, 2) := by decide +kernel
theorem dX8_signDrawn_52 : decode cX8_signDrawn 52 = .ok (.ireturn, 1) := by decide +kernel
theorem dX8_signDrawn_53 : decode cX8_signDrawn 53 = .ok (.bipush 101, 2) := by decide +kernel
theorem dX8_signDrawn_55 : decode cX8_signDrawn 55 = .ok (.ireturn, 1) := by decide +kernel
theorem dX8_signDrawn_56 : decode cX8_signDrawn 56 = .ok (.bipush 65, 2) := by decide +kernel
theorem dX8_signDrawn_58 : decode cX8_signDrawn 58 = .ok (.iload_n 0, 1) := by decide +kernel
theorem dX8_signDrawn_59 : decode cX8_signDrawn 59 = .ok (.bipush 64, 2) := by decide +kernel
theorem dX8_signDrawn_61 : decode cX8_signDrawn 61 = .ok (.idiv, 1) := by decide +kernel
theorem dX8_signDrawn_62 : decode cX8_signDrawn 62 = .ok (.bipush 8, 2) := by decide +kernel
theorem dX8_signDrawn_64 : decode cX8_signDrawn 64 = .ok (.irem, 1) := by decide +kernel
theorem dX8_signDrawn_65 : decode cX8_signDrawn 65 = .ok (.iadd, 1) := by decide +kernel
theorem dX8_signDrawn_66 : decode cX8_signDrawn 66 = .ok (.ireturn, 1) := by decide +kernel
theorem dX8_signDrawn_67 : decode cX8_signDrawn 67 = .ok (.bipush 119, 2) := by decide +kernel
theorem dX8_signDrawn_69 : decode cX8_signDrawn 69 = .ok (.ireturn, 1) := by decide +kernel
theorem dX8_signDrawn_70 : decode cX8_signDrawn 70 = .ok (.bipush 58, 2) := by decide +kernel
theorem dX8_signDrawn_72 : decode cX8_signDrawn 72 = .ok (.ireturn, 1) := by decide +kernel
set_option maxRecDepth 20000 in
theorem ggX9_init_X2_init : GoodIn wsX9_init wsX2_init := goodIn_r _ [37, 38, 2, 3, 39, 40, 41, 42, 43, 44, 82, 83, 84, 85, 86, 87] (by decide +kernel) (by decide +kernel)
set_option maxRecDepth 20000 in
theorem gX9_init_X2_init_n9 : GoodIn wsX9_init (wsX2_init) := ggX9_init_X2_init
set_option maxRecDepth 20000 in
theorem ggX9_init_X5_init : GoodIn wsX9_init wsX5_init := goodIn_r _ [46, 47, 2, 3, 42, 48, 49, 50, 96, 97, 98, 99, 100] (by decide +kernel) (by decide +kernel)
set_option maxRecDepth 20000 in
theorem gX9_init_X5_init_n18 : GoodIn wsX9_init (wsX5_init) := ggX9_init_X5_init
set_option maxRecDepth 20000 in
theorem ggX9_init_X1_init : GoodIn wsX9_init wsX1_init := goodIn_r _ [52, 53, 2, 3, 54, 5, 6, 55, 36, 37, 38, 39, 40, 41, 42, 43, 44, 82, 83, 84, 85, 86, 87, 101, 102, 103, 104, 105, 106, 107] (by decide +kernel) (by decide +kernel)
set_option maxRecDepth 20000 in
theorem gX9_init_X1_init_n25 : GoodIn wsX9_init (wsX1_init) := ggX9_init_X1_init
set_option maxRecDepth 20000 in
theorem ggX9_init_X4_init : GoodIn wsX9_init wsX4_init := goodIn_r _ [57, 58, 2, 3] (by decide +kernel) (by decide +kernel)
set_option maxRecDepth 20000 in
theorem gX9_init_X4_init_n32 : GoodIn wsX9_init (wsX4_init) := ggX9_init_X4_init
set_option maxRecDepth 20000 in
theorem ggX9_init_X6_init : GoodIn wsX9_init wsX6_init := goodIn_r _ [60, 61, 2, 3, 42, 62, 63, 64, 65, 110, 111, 112, 113] (by decide +kernel) (by decide +kernel)
set_option maxRecDepth 20000 in
theorem gX9_init_X6_init_n39 : GoodIn wsX9_init (wsX6_init) := ggX9_init_X6_init
set_option maxRecDepth 20000 in
theorem ggX9_init_X7_init : GoodIn wsX9_init wsX7_init := goodIn_r _ [67, 68, 2, 3, 42, 69, 114, 115, 116, 117] (by decide +kernel) (by decide +kernel)
set_option maxRecDepth 20000 in
theorem gX9_init_X7_init_n46 : GoodIn wsX9_init (wsX7_init) := ggX9_init_X7_init
set_option maxRecDepth 20000 in
theorem ggX9_init_X8_init : GoodIn wsX9_init wsX8_init := goodIn_r _ [71, 72, 2, 3, 73, 5, 6, 74, 36, 37, 38, 39, 40, 41, 42, 43, 44, 82, 83, 84, 85, 86, 87, 118, 119] (by decide +kernel) (by decide +kernel)
set_option maxRecDepth 20000 in
theorem gX9_init_X8_init_n53 : GoodIn wsX9_init (wsX8_init) := ggX9_init_X8_init
set_option maxRecDepth 20000 in
theorem ggX9_init_X3_init : GoodIn wsX9_init wsX3_init := goodIn_r _ [76, 77, 2, 3, 78, 5, 6, 79, 80, 21, 22, 81, 36, 37, 38, 39, 40, 41, 42, 43, 44, 59, 60, 61, 62, 63, 64, 65, 82, 83, 84, 85, 86, 87, 120, 121, 122, 110, 111, 112, 113] (by decide +kernel) (by decide +kernel)
set_option maxRecDepth 20000 in
theorem gX9_init_X3_init_n60 : GoodIn wsX9_init (wsX3_init) := ggX9_init_X3_init
theorem dX9_init_0 : decode cX9_init 0 = .ok (.aload_n 0, 1) := by decide +kernel
theorem dX9_init_1 : decode cX9_init 1 = .ok (.invokespecial 1, 3) := by decide +kernel
theorem dX9_init_4 : decode cX9_init 4 = .ok (.aload_n 0, 1) := by decide +kernel
theorem dX9_init_5 : decode cX9_init 5 = .ok (.new 7, 3) := by decide +kernel
theorem dX9_init_8 : decode cX9_init 8 = .ok (.dup, 1) := by decide +kernel
theorem dX9_init_9 : decode cX9_init 9 = .ok (.invokespecial 9, 3) := by decide +kernel
theorem dX9_init_12 : decode cX9_init 12 = .ok (.putfield 10, 3) := by decide +kernel
theorem dX9_init_15 : decode cX9_init 15 = .ok (.aload_n 0, 1) := by decide +kernel
theorem dX9_init_16 : decode cX9_init 16 = .ok (.new 16, 3) := by decide +kernel
theorem dX9_init_19 : decode cX9_init 19 = .ok (.dup, 1) := by decide +kernel
theorem dX9_init_20 : decode cX9_init 20 = .ok (.invokespecial 18, 3) := by decide +kernel
theorem dX9_init_23 : decode cX9_init 23 = .ok (.putfield 19, 3) := by decide +kernel
theorem dX9_init_26 : decode cX9_init 26 = .ok (.aload_n 0, 1) := by decide +kernel
theorem dX9_init_27 : decode cX9_init 27 = .ok (.new 23, 3) := by decide +kernel
theorem dX9_init_30 : decode cX9_init 30 = .ok (.dup, 1) := by decide +kernel
theorem dX9_init_31 : decode cX9_init 31 = .ok (.invokespecial 25, 3) := by decide +kernel
theorem dX9_init_34 : decode cX9_init 34 = .ok (.putfield 26, 3) := by decide +kernel
theorem dX9_init_37 : decode cX9_init 37 = .ok (.aload_n 0, 1) := by decide +kernel
theorem dX9_init_38 : decode cX9_init 38 = .ok (.new 30, 3) := by decide +kernel
theorem dX9_init_41 : decode cX9_init 41 = .ok (.dup, 1) := by decide +kernel
theorem dX9_init_42 : decode cX9_init 42 = .ok (.invokespecial 32, 3) := by decide +kernel
theorem dX9_init_45 : decode cX9_init 45 = .ok (.putfield 33, 3) := by decide +kernel
theorem dX9_init_48 : decode cX9_init 48 = .ok (.aload_n 0, 1) := by decide +kernel
theorem dX9_init_49 : decode cX9_init 49 = .ok (.new 37, 3) := by decide +kernel
theorem dX9_init_52 : decode cX9_init 52 = .ok (.dup, 1) := by decide +kernel
theorem dX9_init_53 : decode cX9_init 53 = .ok (.invokespecial 39, 3) := by decide +kernel
theorem dX9_init_56 : decode cX9_init 56 = .ok (.putfield 40, 3) := by decide +kernel
theorem dX9_init_59 : decode cX9_init 59 = .ok (.aload_n 0, 1) := by decide +kernel
theorem dX9_init_60 : decode cX9_init 60 = .ok (.new 44, 3) := by decide +kernel
theorem dX9_init_63 : decode cX9_init 63 = .ok (.dup, 1) := by decide +kernel
theorem dX9_init_64 : decode cX9_init 64 = .ok (.invokespecial 46, 3) := by decide +kernel
theorem dX9_init_67 : decode cX9_init 67 = .ok (.putfield 47, 3) := by decide +kernel
theorem dX9_init_70 : decode cX9_init 70 = .ok (.aload_n 0, 1) := by decide +kernel
theorem dX9_init_71 : decode cX9_init 71 = .ok (.new 51, 3) := by decide +kernel
theorem dX9_init_74 : decode cX9_init 74 = .ok (.dup, 1) := by decide +kernel
theorem dX9_init_75 : decode cX9_init 75 = .ok (.invokespecial 53, 3) := by decide +kernel
theorem dX9_init_78 : decode cX9_init 78 = .ok (.putfield 54, 3) := by decide +kernel
theorem dX9_init_81 : decode cX9_init 81 = .ok (.aload_n 0, 1) := by decide +kernel
theorem dX9_init_82 : decode cX9_init 82 = .ok (.iconst 2, 1) := by decide +kernel
theorem dX9_init_83 : decode cX9_init 83 = .ok (.anewarray 58, 3) := by decide +kernel
theorem dX9_init_86 : decode cX9_init 86 = .ok (.dup, 1) := by decide +kernel
theorem dX9_init_87 : decode cX9_init 87 = .ok (.iconst 0, 1) := by decide +kernel
theorem dX9_init_88 : decode cX9_init 88 = .ok (.new 58, 3) := by decide +kernel
theorem dX9_init_91 : decode cX9_init 91 = .ok (.dup, 1) := by decide +kernel
theorem dX9_init_92 : decode cX9_init 92 = .ok (.invokespecial 60, 3) := by decide +kernel
theorem dX9_init_95 : decode cX9_init 95 = .ok (.aastore, 1) := by decide +kernel
theorem dX9_init_96 : decode cX9_init 96 = .ok (.dup, 1) := by decide +kernel
theorem dX9_init_97 : decode cX9_init 97 = .ok (.iconst 1, 1) := by decide +kernel
theorem dX9_init_98 : decode cX9_init 98 = .ok (.new 58, 3) := by decide +kernel
theorem dX9_init_101 : decode cX9_init 101 = .ok (.dup, 1) := by decide +kernel
theorem dX9_init_102 : decode cX9_init 102 = .ok (.invokespecial 60, 3) := by decide +kernel
theorem dX9_init_105 : decode cX9_init 105 = .ok (.aastore, 1) := by decide +kernel
theorem dX9_init_106 : decode cX9_init 106 = .ok (.putfield 61, 3) := by decide +kernel
theorem dX9_init_109 : decode cX9_init 109 = .ok (.return_, 1) := by decide +kernel
set_option maxRecDepth 20000 in
theorem ggX9_monk_X9_isMonk : GoodIn wsX9_monk wsX9_isMonk := goodIn_r _ [7] (by decide +kernel) (by decide +kernel)
set_option maxRecDepth 20000 in
theorem gX9_monk_X9_isMonk : GoodIn wsX9_monk (va_wsS RX9 65 yX9_isMonk wsX9_isMonk) := goodIn_app (goodIn_of _ (by decide +kernel)) ggX9_monk_X9_isMonk
set_option maxRecDepth 20000 in
theorem ggX9_monk_X9_isWithin : GoodIn wsX9_monk wsX9_isWithin := goodIn_r _ [10] (by decide +kernel) (by decide +kernel)
set_option maxRecDepth 20000 in
theorem gX9_monk_X9_isWithin : GoodIn wsX9_monk (va_wsS RX9 73 yX9_isWithin wsX9_isWithin) := goodIn_app (goodIn_of _ (by decide +kernel)) ggX9_monk_X9_isWithin
set_option maxRecDepth 20000 in
theorem ggX9_monk_X2_settle : GoodIn wsX9_monk wsX2_settle := goodIn_r _ [15, 16, 17, 18, 19, 35, 36, 37, 38, 39, 40] (by decide +kernel) (by decide +kernel)
set_option maxRecDepth 20000 in
theorem gX9_monk_X2_settle : GoodIn wsX9_monk (wsV RX9 77 RX2 yX2_settle wsX2_settle) := goodIn_app (goodIn_of _ (by decide +kernel)) ggX9_monk_X2_settle
set_option maxRecDepth 20000 in
theorem ggX9_monk_J6_bitCount_0f7a4 : GoodIn wsX9_monk wsJ6_bitCount_0f7a4 := goodIn_r _ [23, 24, 25, 26] (by decide +kernel) (by decide +kernel)
set_option maxRecDepth 20000 in
theorem gX9_monk_J6_bitCount_0f7a4 : GoodIn wsX9_monk (va_wsS RX9 84 yJ6_bitCount_0f7a4 wsJ6_bitCount_0f7a4) := goodIn_app (goodIn_of _ (by decide +kernel)) ggX9_monk_J6_bitCount_0f7a4
theorem dX9_monk_0 : decode cX9_monk 0 = .ok (.iload_n 1, 1) := by decide +kernel
theorem dX9_monk_1 : decode cX9_monk 1 = .ok (.invokestatic 65, 3) := by decide +kernel
theorem dX9_monk_4 : decode cX9_monk 4 = .ok (.ifCond .ne 5, 3) := by decide +kernel
theorem dX9_monk_7 : decode cX9_monk 7 = .ok (.iconst (-1), 1) := by decide +kernel
theorem dX9_monk_8 : decode cX9_monk 8 = .ok (.ireturn, 1) := by decide +kernel
theorem dX9_monk_9 : decode cX9_monk 9 = .ok (.iload_n 2, 1) := by decide +kernel
theorem dX9_monk_10 : decode cX9_monk 10 = .ok (.iconst 0, 1) := by decide +kernel
theorem dX9_monk_11 : decode cX9_monk 11 = .ok (.aload_n 0, 1) := by decide +kernel
theorem dX9_monk_12 : decode cX9_monk 12 = .ok (.getfield 10, 3) := by decide +kernel
theorem dX9_monk_15 : decode cX9_monk 15 = .ok (.getfield 69, 3) := by decide +kernel
theorem dX9_monk_18 : decode cX9_monk 18 = .ok (.invokestatic 73, 3) := by decide +kernel
theorem dX9_monk_21 : decode cX9_monk 21 = .ok (.ifCond .eq 13, 3) := by decide +kernel
theorem dX9_monk_24 : decode cX9_monk 24 = .ok (.iload_n 3, 1) := by decide +kernel
theorem dX9_monk_25 : decode cX9_monk 25 = .ok (.iconst 1, 1) := by decide +kernel
theorem dX9_monk_26 : decode cX9_monk 26 = .ok (.bipush 9, 2) := by decide +kernel
theorem dX9_monk_28 : decode cX9_monk 28 = .ok (.invokestatic 73, 3) := by decide +kernel
theorem dX9_monk_31 : decode cX9_monk 31 = .ok (.ifCond .ne 6, 3) := by decide +kernel
theorem dX9_monk_34 : decode cX9_monk 34 = .ok (.bipush (-2), 2) := by decide +kernel
theorem dX9_monk_36 : decode cX9_monk 36 = .ok (.ireturn, 1) := by decide +kernel
theorem dX9_monk_37 : decode cX9_monk 37 = .ok (.aload_n 0, 1) := by decide +kernel
theorem dX9_monk_38 : decode cX9_monk 38 = .ok (.getfield 10, 3) := by decide +kernel
theorem dX9_monk_41 : decode cX9_monk 41 = .ok (.iload_n 1, 1) := by decide +kernel
theorem dX9_monk_42 : decode cX9_monk 42 = .ok (.iload_n 2, 1) := by decide +kernel
theorem dX9_monk_43 : decode cX9_monk 43 = .ok (.iload_n 3, 1) := by decide +kernel
theorem dX9_monk_44 : decode cX9_monk 44 = .ok (.invokevirtual 77, 3) := by decide +kernel
theorem dX9_monk_47 : decode cX9_monk 47 = .ok (.aload_n 0, 1) := by decide +kernel
theorem dX9_monk_48 : decode cX9_monk 48 = .ok (.getfield 10, 3) := by decide +kernel
theorem dX9_monk_51 : decode cX9_monk 51 = .ok (.getfield 81, 3) := by decide +kernel
theorem dX9_monk_54 : decode cX9_monk 54 = .ok (.invokestatic 84, 3) := by decide +kernel
theorem dX9_monk_57 : decode cX9_monk 57 = .ok (.ireturn, 1) := by decide +kernel
set_option maxRecDepth 20000 in
theorem ggX9_leave_X2_isThere : GoodIn wsX9_leave wsX2_isThere := goodIn_r _ [7, 8, 29, 30, 31, 32, 33, 34] (by decide +kernel) (by decide +kernel)
set_option maxRecDepth 20000 in
theorem gX9_leave_X2_isThere : GoodIn wsX9_leave (wsV RX9 90 RX2 yX2_isThere wsX2_isThere) := goodIn_app (goodIn_of _ (by decide +kernel)) ggX9_leave_X2_isThere
set_option maxRecDepth 20000 in
theorem ggX9_leave_X2_dismiss : GoodIn wsX9_leave wsX2_dismiss := goodIn_r _ [12, 8, 13, 29, 30, 31, 32, 33, 34] (by decide +kernel) (by decide +kernel)
set_option maxRecDepth 20000 in
theorem gX9_leave_X2_dismiss : GoodIn wsX9_leave (wsV RX9 93 RX2 yX2_dismiss wsX2_dismiss) := goodIn_app (goodIn_of _ (by decide +kernel)) ggX9_leave_X2_dismiss
set_option maxRecDepth 20000 in
theorem ggX9_leave_J6_bitCount_0f7a4 : GoodIn wsX9_leave wsJ6_bitCount_0f7a4 := goodIn_r _ [17, 18, 19, 20] (by decide +kernel) (by decide +kernel)
set_option maxRecDepth 20000 in
theorem gX9_leave_J6_bitCount_0f7a4 : GoodIn wsX9_leave (va_wsS RX9 84 yJ6_bitCount_0f7a4 wsJ6_bitCount_0f7a4) := goodIn_app (goodIn_of _ (by decide +kernel)) ggX9_leave_J6_bitCount_0f7a4
theorem dX9_leave_0 : decode cX9_leave 0 = .ok (.aload_n 0, 1) := by decide +kernel
theorem dX9_leave_1 : decode cX9_leave 1 = .ok (.getfield 10, 3) := by decide +kernel
theorem dX9_leave_4 : decode cX9_leave 4 = .ok (.iload_n 1, 1) := by decide +kernel
theorem dX9_leave_5 : decode cX9_leave 5 = .ok (.invokevirtual 90, 3) := by decide +kernel
theorem dX9_leave_8 : decode cX9_leave 8 = .ok (.ifCond .ne 5, 3) := by decide +kernel
theorem dX9_leave_11 : decode cX9_leave 11 = .ok (.iconst (-1), 1) := by decide +kernel
theorem dX9_leave_12 : decode cX9_leave 12 = .ok (.ireturn, 1) := by decide +kernel
theorem dX9_leave_13 : decode cX9_leave 13 = .ok (.aload_n 0, 1) := by decide +kernel
theorem dX9_leave_14 : decode cX9_leave 14 = .ok (.getfield 10, 3) := by decide +kernel
theorem dX9_leave_17 : decode cX9_leave 17 = .ok (.iload_n 1, 1) := by decide +kernel
theorem dX9_leave_18 : decode cX9_leave 18 = .ok (.invokevirtual 93, 3) := by decide +kernel
theorem dX9_leave_21 : decode cX9_leave 21 = .ok (.aload_n 0, 1) := by decide +kernel
theorem dX9_leave_22 : decode cX9_leave 22 = .ok (.getfield 10, 3) := by decide +kernel
theorem dX9_leave_25 : decode cX9_leave 25 = .ok (.getfield 81, 3) := by decide +kernel
theorem dX9_leave_28 : decode cX9_leave 28 = .ok (.invokestatic 84, 3) := by decide +kernel
theorem dX9_leave_31 : decode cX9_leave 31 = .ok (.ireturn, 1) := by decide +kernel
set_option maxRecDepth 20000 in
theorem ggX9_set_X9_changeStart : GoodIn wsX9_set wsX9_changeStart := goodIn_r _ [5, 6, 7, 8, 9, 10, 11, 4, 12, 13, 14, 15, 16, 17, 18, 19, 20, 21, 22, 28, 29, 30, 31, 32, 33, 34, 35, 36, 37, 38, 39, 40, 41] (by decide +kernel) (by decide +kernel)
set_option maxRecDepth 20000 in
theorem gX9_set_X9_changeStart : GoodIn wsX9_set (wsV RX9 97 RX9 yX9_changeStart wsX9_changeStart) := goodIn_app (goodIn_of _ (by decide +kernel)) ggX9_set_X9_changeStart
set_option maxRecDepth 20000 in
theorem ggX9_set_X9_changeSharp : GoodIn wsX9_set wsX9_changeSharp := goodIn_r _ [26, 7, 27, 10, 11, 4, 12, 28, 29, 30, 31, 32, 33, 34, 35, 36, 37, 38, 39, 40, 41] (by decide +kernel) (by decide +kernel)
set_option maxRecDepth 20000 in
theorem gX9_set_X9_changeSharp : GoodIn wsX9_set (wsV RX9 100 RX9 yX9_changeSharp wsX9_changeSharp) := goodIn_app (goodIn_of _ (by decide +kernel)) ggX9_set_X9_changeSharp
theorem dX9_set_0 : decode cX9_set 0 = .ok (.iload_n 1, 1) := by decide +kernel
theorem dX9_set_1 : decode cX9_set 1 = .ok (.ifCond .ne 9, 3) := by decide +kernel
theorem dX9_set_4 : decode cX9_set 4 = .ok (.aload_n 0, 1) := by decide +kernel
theorem dX9_set_5 : decode cX9_set 5 = .ok (.iload_n 2, 1) := by decide +kernel
theorem dX9_set_6 : decode cX9_set 6 = .ok (.invokevirtual 97, 3) := by decide +kernel
theorem dX9_set_9 : decode cX9_set 9 = .ok (.ireturn, 1) := by decide +kernel
theorem dX9_set_10 : decode cX9_set 10 = .ok (.iload_n 1, 1) := by decide +kernel
theorem dX9_set_11 : decode cX9_set 11 = .ok (.iconst 1, 1) := by decide +kernel
theorem dX9_set_12 : decode cX9_set 12 = .ok (.if_icmp .ne 11, 3) := by decide +kernel
theorem dX9_set_15 : decode cX9_set 15 = .ok (.aload_n 0, 1) := by decide +kernel
theorem dX9_set_16 : decode cX9_set 16 = .ok (.iload_n 2, 1) := by decide +kernel
theorem dX9_set_17 : decode cX9_set 17 = .ok (.invokevirtual 100, 3) := by decide +kernel
theorem dX9_set_20 : decode cX9_set 20 = .ok (.goto 5, 3) := by decide +kernel
theorem dX9_set_23 : decode cX9_set 23 = .ok (.bipush (-2), 2) := by decide +kernel
theorem dX9_set_25 : decode cX9_set 25 = .ok (.ireturn, 1) := by decide +kernel
set_option maxRecDepth 20000 in
theorem ggX9_changeStart_X9_isWithin : GoodIn wsX9_changeStart wsX9_isWithin := goodIn_r _ [8] (by decide +kernel) (by decide +kernel)
set_option maxRecDepth 20000 in
theorem gX9_changeStart_X9_isWithin : GoodIn wsX9_changeStart (va_wsS RX9 73 yX9_isWithin wsX9_isWithin) := goodIn_app (goodIn_of _ (by decide +kernel)) ggX9_changeStart_X9_isWithin
set_option maxRecDepth 20000 in
theorem ggX9_changeStart_X2_greatestCount : GoodIn wsX9_changeStart wsX2_greatestCount := goodIn_r _ [13, 14, 15, 16, 17, 18, 27, 28, 29, 30, 31, 32] (by decide +kernel) (by decide +kernel)
set_option maxRecDepth 20000 in
theorem gX9_changeStart_X2_greatestCount : GoodIn wsX9_changeStart (wsV RX9 104 RX2 yX2_greatestCount wsX2_greatestCount) := goodIn_app (goodIn_of _ (by decide +kernel)) ggX9_changeStart_X2_greatestCount
theorem dX9_changeStart_0 : decode cX9_changeStart 0 = .ok (.iload_n 1, 1) := by decide +kernel
theorem dX9_changeStart_1 : decode cX9_changeStart 1 = .ok (.iconst 1, 1) := by decide +kernel
theorem dX9_changeStart_2 : decode cX9_changeStart 2 = .ok (.ldc 103, 2) := by decide +kernel
theorem dX9_changeStart_4 : decode cX9_changeStart 4 = .ok (.invokestatic 73, 3) := by decide +kernel
theorem dX9_changeStart_7 : decode cX9_changeStart 7 = .ok (.ifCond .ne 6, 3) := by decide +kernel
theorem dX9_changeStart_10 : decode cX9_changeStart 10 = .ok (.bipush (-2), 2) := by decide +kernel
theorem dX9_changeStart_12 : decode cX9_changeStart 12 = .ok (.ireturn, 1) := by decide +kernel
theorem dX9_changeStart_13 : decode cX9_changeStart 13 = .ok (.aload_n 0, 1) := by decide +kernel
theorem dX9_changeStart_14 : decode cX9_changeStart 14 = .ok (.getfield 10, 3) := by decide +kernel
theorem dX9_changeStart_17 : decode cX9_changeStart 17 = .ok (.aload_n 0, 1) := by decide +kernel
theorem dX9_changeStart_18 : decode cX9_changeStart 18 = .ok (.getfield 10, 3) := by decide +kernel
theorem dX9_changeStart_21 : decode cX9_changeStart 21 = .ok (.getfield 81, 3) := by decide +kernel
theorem dX9_changeStart_24 : decode cX9_changeStart 24 = .ok (.invokevirtual 104, 3) := by decide +kernel
theorem dX9_changeStart_27 : decode cX9_changeStart 27 = .ok (.iload_n 1, 1) := by decide +kernel
theorem dX9_changeStart_28 : decode cX9_changeStart 28 = .ok (.if_icmp .le 6, 3) := by decide +kernel
theorem dX9_changeStart_31 : decode cX9_changeStart 31 = .ok (.bipush (-3), 2) := by decide +kernel
theorem dX9_changeStart_33 : decode cX9_changeStart 33 = .ok (.ireturn, 1) := by decide +kernel
theorem dX9_changeStart_34 : decode cX9_changeStart 34 = .ok (.aload_n 0, 1) := by decide +kernel
theorem dX9_changeStart_35 : decode cX9_changeStart 35 = .ok (.getfield 10, 3) := by decide +kernel
theorem dX9_changeStart_38 : decode cX9_changeStart 38 = .ok (.getfield 69, 3) := by decide +kernel
theorem dX9_changeStart_41 : decode cX9_changeStart 41 = .ok (.istore_n 2, 1) := by decide +kernel
theorem dX9_changeStart_42 : decode cX9_changeStart 42 = .ok (.aload_n 0, 1) := by decide +kernel
theorem dX9_changeStart_43 : decode cX9_changeStart 43 = .ok (.getfield 10, 3) := by decide +kernel
theorem dX9_changeStart_46 : decode cX9_changeStart 46 = .ok (.iload_n 1, 1) := by decide +kernel
theorem dX9_changeStart_47 : decode cX9_changeStart 47 = .ok (.putfield 69, 3) := by decide +kernel
theorem dX9_changeStart_50 : decode cX9_changeStart 50 = .ok (.iload_n 2, 1) := by decide +kernel
theorem dX9_changeStart_51 : decode cX9_changeStart 51 = .ok (.ireturn, 1) := by decide +kernel
set_option maxRecDepth 20000 in
theorem ggX9_changeSharp_X9_isWithin : GoodIn wsX9_changeSharp wsX9_isWithin := goodIn_r _ [6] (by decide +kernel) (by decide +kernel)
set_option maxRecDepth 20000 in
theorem gX9_changeSharp_X9_isWithin : GoodIn wsX9_changeSharp (va_wsS RX9 73 yX9_isWithin wsX9_isWithin) := goodIn_app (goodIn_of _ (by decide +kernel)) ggX9_changeSharp_X9_isWithin
theorem dX9_changeSharp_0 : decode cX9_changeSharp 0 = .ok (.iload_n 1, 1) := by decide +kernel
theorem dX9_changeSharp_1 : decode cX9_changeSharp 1 = .ok (.iconst 0, 1) := by decide +kernel
theorem dX9_changeSharp_2 : decode cX9_changeSharp 2 = .ok (.bipush 99, 2) := by decide +kernel
theorem dX9_changeSharp_4 : decode cX9_changeSharp 4 = .ok (.invokestatic 73, 3) := by decide +kernel
theorem dX9_changeSharp_7 : decode cX9_changeSharp 7 = .ok (.ifCond .ne 6, 3) := by decide +kernel
theorem dX9_changeSharp_10 : decode cX9_changeSharp 10 = .ok (.bipush (-2), 2) := by decide +kernel
theorem dX9_changeSharp_12 : decode cX9_changeSharp 12 = .ok (.ireturn, 1) := by decide +kernel
theorem dX9_changeSharp_13 : decode cX9_changeSharp 13 = .ok (.aload_n 0, 1) := by decide +kernel
theorem dX9_changeSharp_14 : decode cX9_changeSharp 14 = .ok (.getfield 10, 3) := by decide +kernel
theorem dX9_changeSharp_17 : decode cX9_changeSharp 17 = .ok (.getfield 107, 3) := by decide +kernel
theorem dX9_changeSharp_20 : decode cX9_changeSharp 20 = .ok (.istore_n 2, 1) := by decide +kernel
theorem dX9_changeSharp_21 : decode cX9_changeSharp 21 = .ok (.aload_n 0, 1) := by decide +kernel
theorem dX9_changeSharp_22 : decode cX9_changeSharp 22 = .ok (.getfield 10, 3) := by decide +kernel
theorem dX9_changeSharp_25 : decode cX9_changeSharp 25 = .ok (.iload_n 1, 1) := by decide +kernel
theorem dX9_changeSharp_26 : decode cX9_changeSharp 26 = .ok (.putfield 107, 3) := by decide +kernel
theorem dX9_changeSharp_29 : decode cX9_changeSharp 29 = .ok (.iload_n 2, 1) := by decide +kernel
theorem dX9_changeSharp_30 : decode cX9_changeSharp 30 = .ok (.ireturn, 1) := by decide +kernel
set_option maxRecDepth 20000 in
theorem ggX9_say_X9_isWithin : GoodIn wsX9_say wsX9_isWithin := goodIn_r _ [6] (by decide +kernel) (by decide +kernel)
set_option maxRecDepth 20000 in
theorem gX9_say_X9_isWithin : GoodIn wsX9_say (va_wsS RX9 73 yX9_isWithin wsX9_isWithin) := goodIn_app (goodIn_of _ (by decide +kernel)) ggX9_say_X9_isWithin
set_option maxRecDepth 20000 in
theorem ggX9_say_X5_add : GoodIn wsX9_say wsX5_add := goodIn_r _ [11, 12, 13, 22, 23, 24, 25, 26] (by decide +kernel) (by decide +kernel)
set_option maxRecDepth 20000 in
theorem gX9_say_X5_add : GoodIn wsX9_say (wsV RX9 110 RX5 yX5_add wsX5_add) := goodIn_app (goodIn_of _ (by decide +kernel)) ggX9_say_X5_add
theorem dX9_say_0 : decode cX9_say 0 = .ok (.iload_n 1, 1) := by decide +kernel
theorem dX9_say_1 : decode cX9_say 1 = .ok (.bipush 33, 2) := by decide +kernel
theorem dX9_say_3 : decode cX9_say 3 = .ok (.bipush 126, 2) := by decide +kernel
theorem dX9_say_5 : decode cX9_say 5 = .ok (.invokestatic 73, 3) := by decide +kernel
theorem dX9_say_8 : decode cX9_say 8 = .ok (.ifCond .ne 6, 3) := by decide +kernel
theorem dX9_say_11 : decode cX9_say 11 = .ok (.bipush (-2), 2) := by decide +kernel
theorem dX9_say_13 : decode cX9_say 13 = .ok (.ireturn, 1) := by decide +kernel
theorem dX9_say_14 : decode cX9_say 14 = .ok (.aload_n 0, 1) := by decide +kernel
theorem dX9_say_15 : decode cX9_say 15 = .ok (.getfield 19, 3) := by decide +kernel
theorem dX9_say_18 : decode cX9_say 18 = .ok (.iload_n 1, 1) := by decide +kernel
theorem dX9_say_19 : decode cX9_say 19 = .ok (.invokevirtual 110, 3) := by decide +kernel
theorem dX9_say_22 : decode cX9_say 22 = .ok (.ifCond .eq 13, 3) := by decide +kernel
theorem dX9_say_25 : decode cX9_say 25 = .ok (.aload_n 0, 1) := by decide +kernel
theorem dX9_say_26 : decode cX9_say 26 = .ok (.getfield 19, 3) := by decide +kernel
theorem dX9_say_29 : decode cX9_say 29 = .ok (.getfield 113, 3) := by decide +kernel
theorem dX9_say_32 : decode cX9_say 32 = .ok (.goto 5, 3) := by decide +kernel
theorem dX9_say_35 : decode cX9_say 35 = .ok (.bipush (-4), 2) := by decide +kernel
theorem dX9_say_37 : decode cX9_say 37 = .ok (.ireturn, 1) := by decide +kernel
theorem dX9_wipe_0 : decode cX9_wipe 0 = .ok (.aload_n 0, 1) := by decide +kernel
theorem dX9_wipe_1 : decode cX9_wipe 1 = .ok (.getfield 19, 3) := by decide +kernel
theorem dX9_wipe_4 : decode cX9_wipe 4 = .ok (.getfield 113, 3) := by decide +kernel
theorem dX9_wipe_7 : decode cX9_wipe 7 = .ok (.istore_n 1, 1) := by decide +kernel
theorem dX9_wipe_8 : decode cX9_wipe 8 = .ok (.aload_n 0, 1) := by decide +kernel
theorem dX9_wipe_9 : decode cX9_wipe 9 = .ok (.getfield 19, 3) := by decide +kernel
theorem dX9_wipe_12 : decode cX9_wipe 12 = .ok (.iconst 0, 1) := by decide +kernel
theorem dX9_wipe_13 : decode cX9_wipe 13 = .ok (.putfield 113, 3) := by decide +kernel
theorem dX9_wipe_16 : decode cX9_wipe 16 = .ok (.iload_n 1, 1) := by decide +kernel
theorem dX9_wipe_17 : decode cX9_wipe 17 = .ok (.ireturn, 1) := by decide +kernel
set_option maxRecDepth 20000 in
theorem ggX9_fault_X5_readActs : GoodIn wsX9_fault wsX5_readActs := goodIn_r _ [6, 7, 8, 9, 10, 11, 5, 12, 13, 14, 15, 16, 17, 18, 19, 20, 21, 22, 23, 24, 25, 26, 27, 36, 37, 38, 39, 40] (by decide +kernel) (by decide +kernel)
set_option maxRecDepth 20000 in
theorem gX9_fault_X5_readActs : GoodIn wsX9_fault (wsV RX9 116 RX5 yX5_readActs wsX5_readActs) := goodIn_app (goodIn_of _ (by decide +kernel)) ggX9_fault_X5_readActs
theorem dX9_fault_0 : decode cX9_fault 0 = .ok (.aload_n 0, 1) := by decide +kernel
theorem dX9_fault_1 : decode cX9_fault 1 = .ok (.getfield 19, 3) := by decide +kernel
theorem dX9_fault_4 : decode cX9_fault 4 = .ok (.invokevirtual 116, 3) := by decide +kernel
theorem dX9_fault_7 : decode cX9_fault 7 = .ok (.ireturn, 1) := by decide +kernel
set_option maxRecDepth 20000 in
theorem ggX9_judge_X9_isWithin : GoodIn wsX9_judge wsX9_isWithin := goodIn_r _ [10] (by decide +kernel) (by decide +kernel)
set_option maxRecDepth 20000 in
theorem gX9_judge_X9_isWithin : GoodIn wsX9_judge (va_wsS RX9 73 yX9_isWithin wsX9_isWithin) := goodIn_app (goodIn_of _ (by decide +kernel)) ggX9_judge_X9_isWithin
set_option maxRecDepth 20000 in
theorem ggX9_judge_X1_follow : GoodIn wsX9_judge wsX1_follow := goodIn_r _ [15, 16, 17, 18, 19, 20, 21, 22, 23, 24, 25, 26, 27, 28, 29, 30, 31, 32, 33, 34, 35, 36, 37, 38, 39, 40, 41, 9, 42, 43, 44, 45, 46, 47, 48, 14, 49, 50, 51, 52, 53, 54, 55, 56, 57, 58, 59, 60, 61, 62, 63, 64, 65, 66, 67, 68, 69, 70, 71, 72, 73, 74, 75, 76, 77, 78, 79, 80, 81, 82, 83, 84, 85, 86, 87, 88, 89, 90, 91, 92, 93, 94, 95, 96, 97, 98, 99, 100, 101, 102, 103, 104, 105, 106, 107, 108, 109, 110, 111, 112, 113, 114, 115, 116, 117, 118, 119, 120, 121, 122, 123, 124, 125, 126, 127, 128, 129, 130, 131, 132, 133, 134, 135, 136, 137, 138, 139, 140, 141, 142, 143, 144, 145, 146, 147, 148, 149, 150, 151, 160, 161, 162, 163, 164, 165, 166, 167, 168, 169, 170, 171, 172, 173, 174, 175, 176, 177] (by decide +kernel) (by decide +kernel)
set_option maxRecDepth 20000 in
theorem gX9_judge_X1_follow : GoodIn wsX9_judge (wsV RX9 120 RX1 yX1_follow wsX1_follow) := goodIn_app (goodIn_of _ (by decide +kernel)) ggX9_judge_X1_follow
theorem dX9_judge_0 : decode cX9_judge 0 = .ok (.iload_n 1, 1) := by decide +kernel
theorem dX9_judge_1 : decode cX9_judge 1 = .ok (.iconst 0, 1) := by decide +kernel
theorem dX9_judge_2 : decode cX9_judge 2 = .ok (.iconst 1, 1) := by decide +kernel
theorem dX9_judge_3 : decode cX9_judge 3 = .ok (.invokestatic 73, 3) := by decide +kernel
theorem dX9_judge_6 : decode cX9_judge 6 = .ok (.ifCond .ne 6, 3) := by decide +kernel
theorem dX9_judge_9 : decode cX9_judge 9 = .ok (.bipush (-2), 2) := by decide +kernel
theorem dX9_judge_11 : decode cX9_judge 11 = .ok (.ireturn, 1) := by decide +kernel
theorem dX9_judge_12 : decode cX9_judge 12 = .ok (.aload_n 0, 1) := by decide +kernel
theorem dX9_judge_13 : decode cX9_judge 13 = .ok (.getfield 26, 3) := by decide +kernel
theorem dX9_judge_16 : decode cX9_judge 16 = .ok (.aload_n 0, 1) := by decide +kernel
theorem dX9_judge_17 : decode cX9_judge 17 = .ok (.getfield 19, 3) := by decide +kernel
theorem dX9_judge_20 : decode cX9_judge 20 = .ok (.aload_n 0, 1) := by decide +kernel
theorem dX9_judge_21 : decode cX9_judge 21 = .ok (.getfield 10, 3) := by decide +kernel
theorem dX9_judge_24 : decode cX9_judge 24 = .ok (.invokevirtual 120, 3) := by decide +kernel
theorem dX9_judge_27 : decode cX9_judge 27 = .ok (.pop, 1) := by decide +kernel
theorem dX9_judge_28 : decode cX9_judge 28 = .ok (.aload_n 0, 1) := by decide +kernel
theorem dX9_judge_29 : decode cX9_judge 29 = .ok (.getfield 26, 3) := by decide +kernel
theorem dX9_judge_32 : decode cX9_judge 32 = .ok (.getfield 124, 3) := by decide +kernel
theorem dX9_judge_35 : decode cX9_judge 35 = .ok (.ifCond .eq 6, 3) := by decide +kernel
theorem dX9_judge_38 : decode cX9_judge 38 = .ok (.bipush (-5), 2) := by decide +kernel
theorem dX9_judge_40 : decode cX9_judge 40 = .ok (.ireturn, 1) := by decide +kernel
theorem dX9_judge_41 : decode cX9_judge 41 = .ok (.iload_n 1, 1) := by decide +kernel
theorem dX9_judge_42 : decode cX9_judge 42 = .ok (.ifCond .ne 13, 3) := by decide +kernel
theorem dX9_judge_45 : decode cX9_judge 45 = .ok (.aload_n 0, 1) := by decide +kernel
theorem dX9_judge_46 : decode cX9_judge 46 = .ok (.getfield 26, 3) := by decide +kernel
theorem dX9_judge_49 : decode cX9_judge 49 = .ok (.getfield 128, 3) := by decide +kernel
theorem dX9_judge_52 : decode cX9_judge 52 = .ok (.goto 10, 3) := by decide +kernel
theorem dX9_judge_55 : decode cX9_judge 55 = .ok (.aload_n 0, 1) := by decide +kernel
theorem dX9_judge_56 : decode cX9_judge 56 = .ok (.getfield 26, 3) := by decide +kernel
theorem dX9_judge_59 : decode cX9_judge 59 = .ok (.getfield 131, 3) := by decide +kernel
theorem dX9_judge_62 : decode cX9_judge 62 = .ok (.ireturn, 1) := by decide +kernel
set_option maxRecDepth 20000 in
theorem ggX9_done_X1_follow : GoodIn wsX9_done wsX1_follow := goodIn_r _ [11, 12, 13, 14, 15, 16, 17, 18, 19, 20, 21, 22, 23, 24, 25, 26, 27, 28, 29, 30, 31, 32, 33, 34, 35, 36, 37, 38, 39, 40, 41, 42, 43, 44, 45, 10, 46, 47, 48, 49, 50, 51, 52, 53, 54, 55, 56, 57, 58, 59, 60, 61, 62, 63, 64, 65, 66, 67, 68, 69, 70, 71, 72, 73, 74, 75, 76, 77, 78, 79, 80, 81, 82, 83, 84, 85, 86, 87, 88, 89, 90, 91, 92, 93, 94, 95, 96, 97, 98, 99, 100, 101, 102, 103, 104, 105, 106, 107, 108, 109, 110, 111, 112, 113, 114, 115, 116, 117, 118, 119, 120, 121, 122, 123, 124, 125, 126, 127, 128, 129, 130, 131, 132, 133, 134, 135, 136, 137, 138, 139, 140, 141, 142, 143, 144, 145, 146, 147, 148, 158, 159, 160, 161, 162, 163, 164, 165, 166, 167, 168, 169, 170, 171, 172, 173, 174, 175] (by decide +kernel) (by decide +kernel)
set_option maxRecDepth 20000 in
theorem gX9_done_X1_follow : GoodIn wsX9_done (wsV RX9 120 RX1 yX1_follow wsX1_follow) := goodIn_app (goodIn_of _ (by decide +kernel)) ggX9_done_X1_follow
set_option maxRecDepth 20000 in
theorem ggX9_done_X2_copyFrom : GoodIn wsX9_done wsX2_copyFrom := goodIn_r _ [56, 57, 58, 59, 60, 61, 62, 63, 64, 65, 66, 170, 171, 172, 173, 174, 175] (by decide +kernel) (by decide +kernel)
set_option maxRecDepth 20000 in
theorem gX9_done_X2_copyFrom : GoodIn wsX9_done (wsV RX9 135 RX2 yX2_copyFrom wsX2_copyFrom) := goodIn_app (goodIn_of _ (by decide +kernel)) ggX9_done_X2_copyFrom
theorem dX9_done_0 : decode cX9_done 0 = .ok (.aload_n 0, 1) := by decide +kernel
theorem dX9_done_1 : decode cX9_done 1 = .ok (.getfield 26, 3) := by decide +kernel
theorem dX9_done_4 : decode cX9_done 4 = .ok (.aload_n 0, 1) := by decide +kernel
theorem dX9_done_5 : decode cX9_done 5 = .ok (.getfield 19, 3) := by decide +kernel
theorem dX9_done_8 : decode cX9_done 8 = .ok (.aload_n 0, 1) := by decide +kernel
theorem dX9_done_9 : decode cX9_done 9 = .ok (.getfield 10, 3) := by decide +kernel
theorem dX9_done_12 : decode cX9_done 12 = .ok (.invokevirtual 120, 3) := by decide +kernel
theorem dX9_done_15 : decode cX9_done 15 = .ok (.ifCond .ne 6, 3) := by decide +kernel
theorem dX9_done_18 : decode cX9_done 18 = .ok (.bipush (-5), 2) := by decide +kernel
theorem dX9_done_20 : decode cX9_done 20 = .ok (.ireturn, 1) := by decide +kernel
theorem dX9_done_21 : decode cX9_done 21 = .ok (.aload_n 0, 1) := by decide +kernel
theorem dX9_done_22 : decode cX9_done 22 = .ok (.getfield 10, 3) := by decide +kernel
theorem dX9_done_25 : decode cX9_done 25 = .ok (.aload_n 0, 1) := by decide +kernel
theorem dX9_done_26 : decode cX9_done 26 = .ok (.getfield 26, 3) := by decide +kernel
theorem dX9_done_29 : decode cX9_done 29 = .ok (.getfield 134, 3) := by decide +kernel
theorem dX9_done_32 : decode cX9_done 32 = .ok (.invokevirtual 135, 3) := by decide +kernel
theorem dX9_done_35 : decode cX9_done 35 = .ok (.aload_n 0, 1) := by decide +kernel
theorem dX9_done_36 : decode cX9_done 36 = .ok (.getfield 19, 3) := by decide +kernel
theorem dX9_done_39 : decode cX9_done 39 = .ok (.iconst 0, 1) := by decide +kernel
theorem dX9_done_40 : decode cX9_done 40 = .ok (.putfield 113, 3) := by decide +kernel
theorem dX9_done_43 : decode cX9_done 43 = .ok (.aload_n 0, 1) := by decide +kernel
theorem dX9_done_44 : decode cX9_done 44 = .ok (.getfield 19, 3) := by decide +kernel
theorem dX9_done_47 : decode cX9_done 47 = .ok (.getfield 139, 3) := by decide +kernel
theorem dX9_done_50 : decode cX9_done 50 = .ok (.ireturn, 1) := by decide +kernel
set_option maxRecDepth 20000 in
theorem ggX9_state_X2_isThere : GoodIn wsX9_state wsX2_isThere := goodIn_r _ [6, 7, 30, 31, 32, 33, 34, 35] (by decide +kernel) (by decide +kernel)
set_option maxRecDepth 20000 in
theorem gX9_state_X2_isThere : GoodIn wsX9_state (wsV RX9 90 RX2 yX2_isThere wsX2_isThere) := goodIn_app (goodIn_of _ (by decide +kernel)) ggX9_state_X2_isThere
set_option maxRecDepth 20000 in
theorem ggX9_state_X9_isWithin : GoodIn wsX9_state wsX9_isWithin := goodIn_r _ [11] (by decide +kernel) (by decide +kernel)
set_option maxRecDepth 20000 in
theorem gX9_state_X9_isWithin : GoodIn wsX9_state (va_wsS RX9 73 yX9_isWithin wsX9_isWithin) := goodIn_app (goodIn_of _ (by decide +kernel)) ggX9_state_X9_isWithin
set_option maxRecDepth 20000 in
theorem ggX9_state_X2_tell : GoodIn wsX9_state wsX2_tell := goodIn_r _ [15, 16, 17, 18, 19, 5, 20, 21, 30, 31, 32, 33, 34, 35] (by decide +kernel) (by decide +kernel)
set_option maxRecDepth 20000 in
theorem gX9_state_X2_tell : GoodIn wsX9_state (wsV RX9 142 RX2 yX2_tell wsX2_tell) := goodIn_app (goodIn_of _ (by decide +kernel)) ggX9_state_X2_tell
theorem dX9_state_0 : decode cX9_state 0 = .ok (.aload_n 0, 1) := by decide +kernel
theorem dX9_state_1 : decode cX9_state 1 = .ok (.getfield 10, 3) := by decide +kernel
theorem dX9_state_4 : decode cX9_state 4 = .ok (.iload_n 1, 1) := by decide +kernel
theorem dX9_state_5 : decode cX9_state 5 = .ok (.invokevirtual 90, 3) := by decide +kernel
theorem dX9_state_8 : decode cX9_state 8 = .ok (.ifCond .ne 5, 3) := by decide +kernel
theorem dX9_state_11 : decode cX9_state 11 = .ok (.iconst (-1), 1) := by decide +kernel
theorem dX9_state_12 : decode cX9_state 12 = .ok (.ireturn, 1) := by decide +kernel
theorem dX9_state_13 : decode cX9_state 13 = .ok (.iload_n 2, 1) := by decide +kernel
theorem dX9_state_14 : decode cX9_state 14 = .ok (.iconst 0, 1) := by decide +kernel
theorem dX9_state_15 : decode cX9_state 15 = .ok (.iconst 1, 1) := by decide +kernel
theorem dX9_state_16 : decode cX9_state 16 = .ok (.invokestatic 73, 3) := by decide +kernel
theorem dX9_state_19 : decode cX9_state 19 = .ok (.ifCond .eq 15, 3) := by decide +kernel
theorem dX9_state_22 : decode cX9_state 22 = .ok (.aload_n 0, 1) := by decide +kernel
theorem dX9_state_23 : decode cX9_state 23 = .ok (.getfield 10, 3) := by decide +kernel
theorem dX9_state_26 : decode cX9_state 26 = .ok (.iload_n 1, 1) := by decide +kernel
theorem dX9_state_27 : decode cX9_state 27 = .ok (.iload_n 2, 1) := by decide +kernel
theorem dX9_state_28 : decode cX9_state 28 = .ok (.invokevirtual 142, 3) := by decide +kernel
theorem dX9_state_31 : decode cX9_state 31 = .ok (.goto 5, 3) := by decide +kernel
theorem dX9_state_34 : decode cX9_state 34 = .ok (.bipush (-2), 2) := by decide +kernel
theorem dX9_state_36 : decode cX9_state 36 = .ok (.ireturn, 1) := by decide +kernel
set_option maxRecDepth 20000 in
theorem ggX9_behind_X2_isThere : GoodIn wsX9_behind wsX2_isThere := goodIn_r _ [9, 10, 170, 171, 172, 173, 174, 175] (by decide +kernel) (by decide +kernel)
set_option maxRecDepth 20000 in
theorem gX9_behind_X2_isThere : GoodIn wsX9_behind (wsV RX9 90 RX2 yX2_isThere wsX2_isThere) := goodIn_app (goodIn_of _ (by decide +kernel)) ggX9_behind_X2_isThere
set_option maxRecDepth 20000 in
theorem ggX9_behind_X9_isWithin : GoodIn wsX9_behind wsX9_isWithin := goodIn_r _ [14] (by decide +kernel) (by decide +kernel)
set_option maxRecDepth 20000 in
theorem gX9_behind_X9_isWithin : GoodIn wsX9_behind (va_wsS RX9 73 yX9_isWithin wsX9_isWithin) := goodIn_app (goodIn_of _ (by decide +kernel)) ggX9_behind_X9_isWithin
set_option maxRecDepth 20000 in
theorem ggX9_behind_X1_follow : GoodIn wsX9_behind wsX1_follow := goodIn_r _ [19, 20, 21, 22, 23, 24, 25, 26, 27, 28, 29, 30, 31, 32, 33, 34, 35, 36, 37, 38, 39, 40, 41, 42, 43, 44, 45, 13, 46, 47, 48, 49, 50, 51, 52, 18, 53, 54, 55, 56, 57, 58, 59, 60, 61, 8, 62, 10, 63, 64, 65, 66, 67, 68, 69, 70, 71, 72, 73, 74, 75, 76, 6, 7, 9, 77, 78, 79, 80, 81, 82, 83, 84, 85, 86, 87, 88, 89, 90, 91, 92, 93, 94, 95, 96, 97, 98, 99, 100, 101, 102, 103, 104, 105, 106, 107, 108, 109, 110, 111, 112, 113, 114, 115, 116, 117, 118, 119, 120, 121, 122, 123, 124, 125, 126, 127, 128, 129, 130, 131, 132, 133, 134, 135, 136, 137, 138, 139, 140, 141, 142, 143, 144, 145, 146, 147, 148, 149, 150, 163, 164, 165, 166, 167, 168, 169, 176, 177, 178, 179, 180, 170, 171, 172, 173, 174, 175] (by decide +kernel) (by decide +kernel)
set_option maxRecDepth 20000 in
theorem gX9_behind_X1_follow : GoodIn wsX9_behind (wsV RX9 120 RX1 yX1_follow wsX1_follow) := goodIn_app (goodIn_of _ (by decide +kernel)) ggX9_behind_X1_follow
set_option maxRecDepth 20000 in
theorem ggX9_behind_X2_tell : GoodIn wsX9_behind wsX2_tell := goodIn_r _ [154, 66, 91, 92, 93, 8, 94, 63, 170, 171, 172, 173, 174, 175] (by decide +kernel) (by decide +kernel)
set_option maxRecDepth 20000 in
theorem gX9_behind_X2_tell : GoodIn wsX9_behind (wsV RX9 142 RX2 yX2_tell wsX2_tell) := goodIn_app (goodIn_of _ (by decide +kernel)) ggX9_behind_X2_tell
theorem dX9_behind_0 : decode cX9_behind 0 = .ok (.aload_n 0, 1) := by decide +kernel
theorem dX9_behind_1 : decode cX9_behind 1 = .ok (.getfield 10, 3) := by decide +kernel
theorem dX9_behind_4 : decode cX9_behind 4 = .ok (.iload_n 1, 1) := by decide +kernel
theorem dX9_behind_5 : decode cX9_behind 5 = .ok (.invokevirtual 90, 3) := by decide +kernel
theorem dX9_behind_8 : decode cX9_behind 8 = .ok (.ifCond .ne 5, 3) := by decide +kernel
theorem dX9_behind_11 : decode cX9_behind 11 = .ok (.iconst (-1), 1) := by decide +kernel
theorem dX9_behind_12 : decode cX9_behind 12 = .ok (.ireturn, 1) := by decide +kernel
theorem dX9_behind_13 : decode cX9_behind 13 = .ok (.iload_n 2, 1) := by decide +kernel
theorem dX9_behind_14 : decode cX9_behind 14 = .ok (.iconst 0, 1) := by decide +kernel
theorem dX9_behind_15 : decode cX9_behind 15 = .ok (.iconst 1, 1) := by decide +kernel
theorem dX9_behind_16 : decode cX9_behind 16 = .ok (.invokestatic 73, 3) := by decide +kernel
theorem dX9_behind_19 : decode cX9_behind 19 = .ok (.ifCond .ne 6, 3) := by decide +kernel
theorem dX9_behind_22 : decode cX9_behind 22 = .ok (.bipush (-2), 2) := by decide +kernel
theorem dX9_behind_24 : decode cX9_behind 24 = .ok (.ireturn, 1) := by decide +kernel
theorem dX9_behind_25 : decode cX9_behind 25 = .ok (.aload_n 0, 1) := by decide +kernel
theorem dX9_behind_26 : decode cX9_behind 26 = .ok (.getfield 26, 3) := by decide +kernel
theorem dX9_behind_29 : decode cX9_behind 29 = .ok (.aload_n 0, 1) := by decide +kernel
theorem dX9_behind_30 : decode cX9_behind 30 = .ok (.getfield 19, 3) := by decide +kernel
theorem dX9_behind_33 : decode cX9_behind 33 = .ok (.aload_n 0, 1) := by decide +kernel
theorem dX9_behind_34 : decode cX9_behind 34 = .ok (.getfield 10, 3) := by decide +kernel
theorem dX9_behind_37 : decode cX9_behind 37 = .ok (.invokevirtual 120, 3) := by decide +kernel
theorem dX9_behind_40 : decode cX9_behind 40 = .ok (.ifCond .eq 18, 3) := by decide +kernel
theorem dX9_behind_43 : decode cX9_behind 43 = .ok (.aload_n 0, 1) := by decide +kernel
theorem dX9_behind_44 : decode cX9_behind 44 = .ok (.getfield 26, 3) := by decide +kernel
theorem dX9_behind_47 : decode cX9_behind 47 = .ok (.getfield 134, 3) := by decide +kernel
theorem dX9_behind_50 : decode cX9_behind 50 = .ok (.iload_n 1, 1) := by decide +kernel
theorem dX9_behind_51 : decode cX9_behind 51 = .ok (.iload_n 2, 1) := by decide +kernel
theorem dX9_behind_52 : decode cX9_behind 52 = .ok (.invokevirtual 142, 3) := by decide +kernel
theorem dX9_behind_55 : decode cX9_behind 55 = .ok (.goto 5, 3) := by decide +kernel
theorem dX9_behind_58 : decode cX9_behind 58 = .ok (.bipush (-5), 2) := by decide +kernel
theorem dX9_behind_60 : decode cX9_behind 60 = .ok (.ireturn, 1) := by decide +kernel
set_option maxRecDepth 20000 in
theorem ggX9_breaths_X9_isWithin : GoodIn wsX9_breaths wsX9_isWithin := goodIn_r _ [9] (by decide +kernel) (by decide +kernel)
set_option maxRecDepth 20000 in
theorem gX9_breaths_X9_isWithin : GoodIn wsX9_breaths (va_wsS RX9 73 yX9_isWithin wsX9_isWithin) := goodIn_app (goodIn_of _ (by decide +kernel)) ggX9_breaths_X9_isWithin
set_option maxRecDepth 20000 in
theorem ggX9_breaths_X1_follow : GoodIn wsX9_breaths wsX1_follow := goodIn_r _ [14, 15, 16, 17, 18, 19, 20, 21, 22, 23, 24, 25, 26, 27, 28, 29, 30, 31, 32, 33, 34, 35, 36, 37, 38, 39, 40, 8, 41, 42, 43, 44, 45, 46, 47, 13, 48, 49, 50, 51, 52, 53, 54, 55, 56, 57, 58, 59, 60, 61, 62, 63, 64, 65, 66, 67, 68, 69, 70, 71, 72, 73, 74, 75, 76, 77, 78, 79, 80, 81, 82, 83, 84, 85, 86, 87, 88, 89, 90, 91, 92, 93, 94, 95, 96, 97, 98, 99, 100, 101, 102, 103, 104, 105, 106, 107, 108, 109, 110, 111, 112, 113, 114, 115, 116, 117, 118, 119, 120, 121, 122, 123, 124, 125, 126, 127, 128, 129, 130, 131, 132, 133, 134, 135, 136, 137, 138, 139, 140, 141, 142, 143, 144, 145, 146, 147, 148, 149, 150, 159, 160, 161, 162, 163, 164, 165, 166, 167, 168, 169, 170, 171, 172, 173, 174, 175, 176] (by decide +kernel) (by decide +kernel)
set_option maxRecDepth 20000 in
theorem gX9_breaths_X1_follow : GoodIn wsX9_breaths (wsV RX9 120 RX1 yX1_follow wsX1_follow) := goodIn_app (goodIn_of _ (by decide +kernel)) ggX9_breaths_X1_follow
theorem dX9_breaths_0 : decode cX9_breaths 0 = .ok (.iload_n 1, 1) := by decide +kernel
theorem dX9_breaths_1 : decode cX9_breaths 1 = .ok (.iconst 0, 1) := by decide +kernel
theorem dX9_breaths_2 : decode cX9_breaths 2 = .ok (.iconst 1, 1) := by decide +kernel
theorem dX9_breaths_3 : decode cX9_breaths 3 = .ok (.invokestatic 73, 3) := by decide +kernel
theorem dX9_breaths_6 : decode cX9_breaths 6 = .ok (.ifCond .ne 6, 3) := by decide +kernel
theorem dX9_breaths_9 : decode cX9_breaths 9 = .ok (.bipush (-2), 2) := by decide +kernel
theorem dX9_breaths_11 : decode cX9_breaths 11 = .ok (.ireturn, 1) := by decide +kernel
theorem dX9_breaths_12 : decode cX9_breaths 12 = .ok (.aload_n 0, 1) := by decide +kernel
theorem dX9_breaths_13 : decode cX9_breaths 13 = .ok (.getfield 26, 3) := by decide +kernel
theorem dX9_breaths_16 : decode cX9_breaths 16 = .ok (.aload_n 0, 1) := by decide +kernel
theorem dX9_breaths_17 : decode cX9_breaths 17 = .ok (.getfield 19, 3) := by decide +kernel
theorem dX9_breaths_20 : decode cX9_breaths 20 = .ok (.aload_n 0, 1) := by decide +kernel
theorem dX9_breaths_21 : decode cX9_breaths 21 = .ok (.getfield 10, 3) := by decide +kernel
theorem dX9_breaths_24 : decode cX9_breaths 24 = .ok (.invokevirtual 120, 3) := by decide +kernel
theorem dX9_breaths_27 : decode cX9_breaths 27 = .ok (.ifCond .ne 6, 3) := by decide +kernel
theorem dX9_breaths_30 : decode cX9_breaths 30 = .ok (.bipush (-5), 2) := by decide +kernel
theorem dX9_breaths_32 : decode cX9_breaths 32 = .ok (.ireturn, 1) := by decide +kernel
theorem dX9_breaths_33 : decode cX9_breaths 33 = .ok (.iload_n 1, 1) := by decide +kernel
theorem dX9_breaths_34 : decode cX9_breaths 34 = .ok (.ifCond .ne 13, 3) := by decide +kernel
theorem dX9_breaths_37 : decode cX9_breaths 37 = .ok (.aload_n 0, 1) := by decide +kernel
theorem dX9_breaths_38 : decode cX9_breaths 38 = .ok (.getfield 26, 3) := by decide +kernel
theorem dX9_breaths_41 : decode cX9_breaths 41 = .ok (.getfield 146, 3) := by decide +kernel
theorem dX9_breaths_44 : decode cX9_breaths 44 = .ok (.goto 10, 3) := by decide +kernel
theorem dX9_breaths_47 : decode cX9_breaths 47 = .ok (.aload_n 0, 1) := by decide +kernel
theorem dX9_breaths_48 : decode cX9_breaths 48 = .ok (.getfield 26, 3) := by decide +kernel
theorem dX9_breaths_51 : decode cX9_breaths 51 = .ok (.getfield 149, 3) := by decide +kernel
theorem dX9_breaths_54 : decode cX9_breaths 54 = .ok (.ireturn, 1) := by decide +kernel
set_option maxRecDepth 20000 in
theorem ggX9_noticed_X1_follow : GoodIn wsX9_noticed wsX1_follow := goodIn_r _ [9, 10, 11, 12, 13, 14, 15, 16, 17, 18, 19, 20, 21, 22, 23, 24, 25, 26, 27, 28, 29, 30, 31, 32, 33, 34, 35, 36, 37, 38, 39, 40, 41, 42, 43, 8, 44, 45, 46, 47, 48, 49, 50, 51, 52, 53, 54, 55, 56, 57, 58, 59, 60, 61, 62, 63, 64, 65, 66, 67, 68, 69, 70, 71, 72, 73, 74, 75, 76, 77, 78, 79, 80, 81, 82, 83, 84, 85, 86, 87, 88, 89, 90, 91, 92, 93, 94, 95, 96, 97, 98, 99, 100, 101, 102, 103, 104, 105, 106, 107, 108, 109, 110, 111, 112, 113, 114, 115, 116, 117, 118, 119, 120, 121, 122, 123, 124, 125, 126, 127, 128, 129, 130, 131, 132, 133, 134, 135, 136, 137, 138, 139, 140, 141, 142, 143, 144, 145, 146, 155, 156, 157, 158, 159, 160, 161, 162, 163, 164, 165, 166, 167, 168, 169, 170, 171, 172] (by decide +kernel) (by decide +kernel)
set_option maxRecDepth 20000 in
theorem gX9_noticed_X1_follow : GoodIn wsX9_noticed (wsV RX9 120 RX1 yX1_follow wsX1_follow) := goodIn_app (goodIn_of _ (by decide +kernel)) ggX9_noticed_X1_follow
theorem dX9_noticed_0 : decode cX9_noticed 0 = .ok (.aload_n 0, 1) := by decide +kernel
theorem dX9_noticed_1 : decode cX9_noticed 1 = .ok (.getfield 26, 3) := by decide +kernel
theorem dX9_noticed_4 : decode cX9_noticed 4 = .ok (.aload_n 0, 1) := by decide +kernel
theorem dX9_noticed_5 : decode cX9_noticed 5 = .ok (.getfield 19, 3) := by decide +kernel
theorem dX9_noticed_8 : decode cX9_noticed 8 = .ok (.aload_n 0, 1) := by decide +kernel
theorem dX9_noticed_9 : decode cX9_noticed 9 = .ok (.getfield 10, 3) := by decide +kernel
theorem dX9_noticed_12 : decode cX9_noticed 12 = .ok (.invokevirtual 120, 3) := by decide +kernel
theorem dX9_noticed_15 : decode cX9_noticed 15 = .ok (.ifCond .eq 13, 3) := by decide +kernel
theorem dX9_noticed_18 : decode cX9_noticed 18 = .ok (.aload_n 0, 1) := by decide +kernel
theorem dX9_noticed_19 : decode cX9_noticed 19 = .ok (.getfield 26, 3) := by decide +kernel
theorem dX9_noticed_22 : decode cX9_noticed 22 = .ok (.getfield 152, 3) := by decide +kernel
theorem dX9_noticed_25 : decode cX9_noticed 25 = .ok (.goto 5, 3) := by decide +kernel
theorem dX9_noticed_28 : decode cX9_noticed 28 = .ok (.bipush (-5), 2) := by decide +kernel
theorem dX9_noticed_30 : decode cX9_noticed 30 = .ok (.ireturn, 1) := by decide +kernel
set_option maxRecDepth 20000 in
theorem ggX9_ahead_X2_foremost : GoodIn wsX9_ahead wsX2_foremost := goodIn_r _ [6, 7, 8, 9, 10, 5, 11, 12, 21, 22, 23, 24, 25, 26] (by decide +kernel) (by decide +kernel)
set_option maxRecDepth 20000 in
theorem gX9_ahead_X2_foremost : GoodIn wsX9_ahead (wsV RX9 155 RX2 yX2_foremost wsX2_foremost) := goodIn_app (goodIn_of _ (by decide +kernel)) ggX9_ahead_X2_foremost
theorem dX9_ahead_0 : decode cX9_ahead 0 = .ok (.aload_n 0, 1) := by decide +kernel
theorem dX9_ahead_1 : decode cX9_ahead 1 = .ok (.getfield 10, 3) := by decide +kernel
theorem dX9_ahead_4 : decode cX9_ahead 4 = .ok (.invokevirtual 155, 3) := by decide +kernel
theorem dX9_ahead_7 : decode cX9_ahead 7 = .ok (.istore_n 1, 1) := by decide +kernel
theorem dX9_ahead_8 : decode cX9_ahead 8 = .ok (.iload_n 1, 1) := by decide +kernel
theorem dX9_ahead_9 : decode cX9_ahead 9 = .ok (.iconst (-1), 1) := by decide +kernel
theorem dX9_ahead_10 : decode cX9_ahead 10 = .ok (.if_icmp .ne 8, 3) := by decide +kernel
theorem dX9_ahead_13 : decode cX9_ahead 13 = .ok (.bipush (-6), 2) := by decide +kernel
theorem dX9_ahead_15 : decode cX9_ahead 15 = .ok (.goto 4, 3) := by decide +kernel
theorem dX9_ahead_18 : decode cX9_ahead 18 = .ok (.iload_n 1, 1) := by decide +kernel
theorem dX9_ahead_19 : decode cX9_ahead 19 = .ok (.ireturn, 1) := by decide +kernel
set_option maxRecDepth 20000 in
theorem ggX9_differ_X2_spread : GoodIn wsX9_differ wsX2_spread := goodIn_r _ [6, 7, 8, 9, 10, 11, 5, 12, 13, 14, 15, 16, 17, 18, 19, 20, 21, 22, 23, 24, 33, 34, 35, 36, 37, 38] (by decide +kernel) (by decide +kernel)
set_option maxRecDepth 20000 in
theorem gX9_differ_X2_spread : GoodIn wsX9_differ (wsV RX9 158 RX2 yX2_spread wsX2_spread) := goodIn_app (goodIn_of _ (by decide +kernel)) ggX9_differ_X2_spread
theorem dX9_differ_0 : decode cX9_differ 0 = .ok (.aload_n 0, 1) := by decide +kernel
theorem dX9_differ_1 : decode cX9_differ 1 = .ok (.getfield 10, 3) := by decide +kernel
theorem dX9_differ_4 : decode cX9_differ 4 = .ok (.invokevirtual 158, 3) := by decide +kernel
theorem dX9_differ_7 : decode cX9_differ 7 = .ok (.ireturn, 1) := by decide +kernel
set_option maxRecDepth 20000 in
theorem ggX9_alike_X2_areAwakeAtOneNumber : GoodIn wsX9_alike wsX2_areAwakeAtOneNumber := goodIn_r _ [6, 7, 8, 9, 10, 5, 11, 12, 21, 22, 23, 24, 25, 26] (by decide +kernel) (by decide +kernel)
set_option maxRecDepth 20000 in
theorem gX9_alike_X2_areAwakeAtOneNumber : GoodIn wsX9_alike (wsV RX9 161 RX2 yX2_areAwakeAtOneNumber wsX2_areAwakeAtOneNumber) := goodIn_app (goodIn_of _ (by decide +kernel)) ggX9_alike_X2_areAwakeAtOneNumber
theorem dX9_alike_0 : decode cX9_alike 0 = .ok (.iconst 0, 1) := by decide +kernel
theorem dX9_alike_1 : decode cX9_alike 1 = .ok (.istore_n 2, 1) := by decide +kernel
theorem dX9_alike_2 : decode cX9_alike 2 = .ok (.iconst 0, 1) := by decide +kernel
theorem dX9_alike_3 : decode cX9_alike 3 = .ok (.istore_n 3, 1) := by decide +kernel
theorem dX9_alike_4 : decode cX9_alike 4 = .ok (.iload_n 3, 1) := by decide +kernel
theorem dX9_alike_5 : decode cX9_alike 5 = .ok (.bipush 8, 2) := by decide +kernel
theorem dX9_alike_7 : decode cX9_alike 7 = .ok (.if_icmp .ge 59, 3) := by decide +kernel
theorem dX9_alike_10 : decode cX9_alike 10 = .ok (.iload_n 3, 1) := by decide +kernel
theorem dX9_alike_11 : decode cX9_alike 11 = .ok (.iconst 1, 1) := by decide +kernel
theorem dX9_alike_12 : decode cX9_alike 12 = .ok (.iadd, 1) := by decide +kernel
theorem dX9_alike_13 : decode cX9_alike 13 = .ok (.istore 4, 2) := by decide +kernel
theorem dX9_alike_15 : decode cX9_alike 15 = .ok (.iload 4, 2) := by decide +kernel
theorem dX9_alike_17 : decode cX9_alike 17 = .ok (.bipush 8, 2) := by decide +kernel
theorem dX9_alike_19 : decode cX9_alike 19 = .ok (.if_icmp .ge 41, 3) := by decide +kernel
theorem dX9_alike_22 : decode cX9_alike 22 = .ok (.aload_n 0, 1) := by decide +kernel
theorem dX9_alike_23 : decode cX9_alike 23 = .ok (.getfield 10, 3) := by decide +kernel
theorem dX9_alike_26 : decode cX9_alike 26 = .ok (.iload_n 3, 1) := by decide +kernel
theorem dX9_alike_27 : decode cX9_alike 27 = .ok (.iload 4, 2) := by decide +kernel
theorem dX9_alike_29 : decode cX9_alike 29 = .ok (.invokevirtual 161, 3) := by decide +kernel
theorem dX9_alike_32 : decode cX9_alike 32 = .ok (.ifCond .ne 6, 3) := by decide +kernel
theorem dX9_alike_35 : decode cX9_alike 35 = .ok (.goto 19, 3) := by decide +kernel
theorem dX9_alike_38 : decode cX9_alike 38 = .ok (.iload_n 2, 1) := by decide +kernel
theorem dX9_alike_39 : decode cX9_alike 39 = .ok (.iload_n 1, 1) := by decide +kernel
theorem dX9_alike_40 : decode cX9_alike 40 = .ok (.if_icmp .ne 11, 3) := by decide +kernel
theorem dX9_alike_43 : decode cX9_alike 43 = .ok (.bipush 10, 2) := by decide +kernel
theorem dX9_alike_45 : decode cX9_alike 45 = .ok (.iload_n 3, 1) := by decide +kernel
theorem dX9_alike_46 : decode cX9_alike 46 = .ok (.imul, 1) := by decide +kernel
theorem dX9_alike_47 : decode cX9_alike 47 = .ok (.iload 4, 2) := by decide +kernel
theorem dX9_alike_49 : decode cX9_alike 49 = .ok (.iadd, 1) := by decide +kernel
theorem dX9_alike_50 : decode cX9_alike 50 = .ok (.ireturn, 1) := by decide +kernel
theorem dX9_alike_51 : decode cX9_alike 51 = .ok (.iinc 2 1, 3) := by decide +kernel
theorem dX9_alike_54 : decode cX9_alike 54 = .ok (.iinc 4 1, 3) := by decide +kernel
theorem dX9_alike_57 : decode cX9_alike 57 = .ok (.goto (-42), 3) := by decide +kernel
theorem dX9_alike_60 : decode cX9_alike 60 = .ok (.iinc 3 1, 3) := by decide +kernel
theorem dX9_alike_63 : decode cX9_alike 63 = .ok (.goto (-59), 3) := by decide +kernel
theorem dX9_alike_66 : decode cX9_alike 66 = .ok (.iload_n 1, 1) := by decide +kernel
theorem dX9_alike_67 : decode cX9_alike 67 = .ok (.iconst (-1), 1) := by decide +kernel
theorem dX9_alike_68 : decode cX9_alike 68 = .ok (.if_icmp .ne 7, 3) := by decide +kernel
theorem dX9_alike_71 : decode cX9_alike 71 = .ok (.iload_n 2, 1) := by decide +kernel
theorem dX9_alike_72 : decode cX9_alike 72 = .ok (.goto 5, 3) := by decide +kernel
theorem dX9_alike_75 : decode cX9_alike 75 = .ok (.bipush (-6), 2) := by decide +kernel
theorem dX9_alike_77 : decode cX9_alike 77 = .ok (.ireturn, 1) := by decide +kernel
set_option maxRecDepth 20000 in
theorem ggX9_ends_X2_breathsToEnd : GoodIn wsX9_ends wsX2_breathsToEnd := goodIn_r _ [7, 8, 9, 10, 11, 12, 13, 27, 28, 29, 30, 31, 32] (by decide +kernel) (by decide +kernel)
set_option maxRecDepth 20000 in
theorem gX9_ends_X2_breathsToEnd : GoodIn wsX9_ends (wsV RX9 168 RX2 yX2_breathsToEnd wsX2_breathsToEnd) := goodIn_app (goodIn_of _ (by decide +kernel)) ggX9_ends_X2_breathsToEnd
set_option maxRecDepth 20000 in
theorem ggX9_ends_X2_isThere : GoodIn wsX9_ends wsX2_isThere := goodIn_r _ [17, 18, 27, 28, 29, 30, 31, 32] (by decide +kernel) (by decide +kernel)
set_option maxRecDepth 20000 in
theorem gX9_ends_X2_isThere : GoodIn wsX9_ends (wsV RX9 90 RX2 yX2_isThere wsX2_isThere) := goodIn_app (goodIn_of _ (by decide +kernel)) ggX9_ends_X2_isThere
theorem dX9_ends_0 : decode cX9_ends 0 = .ok (.iload_n 1, 1) := by decide +kernel
theorem dX9_ends_1 : decode cX9_ends 1 = .ok (.iconst (-1), 1) := by decide +kernel
theorem dX9_ends_2 : decode cX9_ends 2 = .ok (.if_icmp .ne 18, 3) := by decide +kernel
theorem dX9_ends_5 : decode cX9_ends 5 = .ok (.aload_n 0, 1) := by decide +kernel
theorem dX9_ends_6 : decode cX9_ends 6 = .ok (.getfield 10, 3) := by decide +kernel
theorem dX9_ends_9 : decode cX9_ends 9 = .ok (.aload_n 0, 1) := by decide +kernel
theorem dX9_ends_10 : decode cX9_ends 10 = .ok (.getfield 10, 3) := by decide +kernel
theorem dX9_ends_13 : decode cX9_ends 13 = .ok (.getfield 165, 3) := by decide +kernel
theorem dX9_ends_16 : decode cX9_ends 16 = .ok (.invokevirtual 168, 3) := by decide +kernel
theorem dX9_ends_19 : decode cX9_ends 19 = .ok (.ireturn, 1) := by decide +kernel
theorem dX9_ends_20 : decode cX9_ends 20 = .ok (.aload_n 0, 1) := by decide +kernel
theorem dX9_ends_21 : decode cX9_ends 21 = .ok (.getfield 10, 3) := by decide +kernel
theorem dX9_ends_24 : decode cX9_ends 24 = .ok (.iload_n 1, 1) := by decide +kernel
theorem dX9_ends_25 : decode cX9_ends 25 = .ok (.invokevirtual 90, 3) := by decide +kernel
theorem dX9_ends_28 : decode cX9_ends 28 = .ok (.ifCond .ne 5, 3) := by decide +kernel
theorem dX9_ends_31 : decode cX9_ends 31 = .ok (.iconst (-1), 1) := by decide +kernel
theorem dX9_ends_32 : decode cX9_ends 32 = .ok (.ireturn, 1) := by decide +kernel
theorem dX9_ends_33 : decode cX9_ends 33 = .ok (.aload_n 0, 1) := by decide +kernel
theorem dX9_ends_34 : decode cX9_ends 34 = .ok (.getfield 10, 3) := by decide +kernel
theorem dX9_ends_37 : decode cX9_ends 37 = .ok (.aload_n 0, 1) := by decide +kernel
theorem dX9_ends_38 : decode cX9_ends 38 = .ok (.getfield 10, 3) := by decide +kernel
theorem dX9_ends_41 : decode cX9_ends 41 = .ok (.getfield 165, 3) := by decide +kernel
theorem dX9_ends_44 : decode cX9_ends 44 = .ok (.iconst 1, 1) := by decide +kernel
theorem dX9_ends_45 : decode cX9_ends 45 = .ok (.iload_n 1, 1) := by decide +kernel
theorem dX9_ends_46 : decode cX9_ends 46 = .ok (.ishl, 1) := by decide +kernel
theorem dX9_ends_47 : decode cX9_ends 47 = .ok (.iand, 1) := by decide +kernel
theorem dX9_ends_48 : decode cX9_ends 48 = .ok (.invokevirtual 168, 3) := by decide +kernel
theorem dX9_ends_51 : decode cX9_ends 51 = .ok (.ireturn, 1) := by decide +kernel
set_option maxRecDepth 20000 in
theorem ggX9_meet_X2_isAwake : GoodIn wsX9_meet wsX2_isAwake := goodIn_r _ [6, 7, 30, 31, 32, 33, 34, 35] (by decide +kernel) (by decide +kernel)
set_option maxRecDepth 20000 in
theorem gX9_meet_X2_isAwake : GoodIn wsX9_meet (wsV RX9 171 RX2 yX2_isAwake wsX2_isAwake) := goodIn_app (goodIn_of _ (by decide +kernel)) ggX9_meet_X2_isAwake
set_option maxRecDepth 20000 in
theorem ggX9_meet_X2_breathsToMeet : GoodIn wsX9_meet wsX2_breathsToMeet := goodIn_r _ [11, 12, 13, 14, 15, 16, 5, 17, 18, 19, 20, 21, 30, 31, 32, 33, 34, 35] (by decide +kernel) (by decide +kernel)
set_option maxRecDepth 20000 in
theorem gX9_meet_X2_breathsToMeet : GoodIn wsX9_meet (wsV RX9 174 RX2 yX2_breathsToMeet wsX2_breathsToMeet) := goodIn_app (goodIn_of _ (by decide +kernel)) ggX9_meet_X2_breathsToMeet
theorem dX9_meet_0 : decode cX9_meet 0 = .ok (.iload_n 1, 1) := by decide +kernel
theorem dX9_meet_1 : decode cX9_meet 1 = .ok (.iload_n 2, 1) := by decide +kernel
theorem dX9_meet_2 : decode cX9_meet 2 = .ok (.if_icmp .eq 25, 3) := by decide +kernel
theorem dX9_meet_5 : decode cX9_meet 5 = .ok (.aload_n 0, 1) := by decide +kernel
theorem dX9_meet_6 : decode cX9_meet 6 = .ok (.getfield 10, 3) := by decide +kernel
theorem dX9_meet_9 : decode cX9_meet 9 = .ok (.iload_n 1, 1) := by decide +kernel
theorem dX9_meet_10 : decode cX9_meet 10 = .ok (.invokevirtual 171, 3) := by decide +kernel
theorem dX9_meet_13 : decode cX9_meet 13 = .ok (.ifCond .eq 14, 3) := by decide +kernel
theorem dX9_meet_16 : decode cX9_meet 16 = .ok (.aload_n 0, 1) := by decide +kernel
theorem dX9_meet_17 : decode cX9_meet 17 = .ok (.getfield 10, 3) := by decide +kernel
theorem dX9_meet_20 : decode cX9_meet 20 = .ok (.iload_n 2, 1) := by decide +kernel
theorem dX9_meet_21 : decode cX9_meet 21 = .ok (.invokevirtual 171, 3) := by decide +kernel
theorem dX9_meet_24 : decode cX9_meet 24 = .ok (.ifCond .ne 5, 3) := by decide +kernel
theorem dX9_meet_27 : decode cX9_meet 27 = .ok (.iconst (-1), 1) := by decide +kernel
theorem dX9_meet_28 : decode cX9_meet 28 = .ok (.ireturn, 1) := by decide +kernel
theorem dX9_meet_29 : decode cX9_meet 29 = .ok (.aload_n 0, 1) := by decide +kernel
theorem dX9_meet_30 : decode cX9_meet 30 = .ok (.getfield 10, 3) := by decide +kernel
theorem dX9_meet_33 : decode cX9_meet 33 = .ok (.iload_n 1, 1) := by decide +kernel
theorem dX9_meet_34 : decode cX9_meet 34 = .ok (.iload_n 2, 1) := by decide +kernel
theorem dX9_meet_35 : decode cX9_meet 35 = .ok (.invokevirtual 174, 3) := by decide +kernel
theorem dX9_meet_38 : decode cX9_meet 38 = .ok (.ireturn, 1) := by decide +kernel
set_option maxRecDepth 20000 in
theorem ggX9_bows_X9_isLaw : GoodIn wsX9_bows wsX9_isLaw := goodIn_r _ [6, 7, 8, 5, 9] (by decide +kernel) (by decide +kernel)
set_option maxRecDepth 20000 in
theorem gX9_bows_X9_isLaw : GoodIn wsX9_bows (va_wsS RX9 177 yX9_isLaw wsX9_isLaw) := goodIn_app (goodIn_of _ (by decide +kernel)) ggX9_bows_X9_isLaw
set_option maxRecDepth 20000 in
theorem ggX9_bows_X9_isWithin : GoodIn wsX9_bows wsX9_isWithin := goodIn_r _ [9] (by decide +kernel) (by decide +kernel)
