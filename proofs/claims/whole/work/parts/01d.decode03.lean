set_option maxRecDepth 20000 in
theorem gX9_bows_X9_isWithin : GoodIn wsX9_bows (va_wsS RX9 73 yX9_isWithin wsX9_isWithin) := goodIn_app (goodIn_of _ (by decide +kernel)) ggX9_bows_X9_isWithin
set_option maxRecDepth 20000 in
theorem ggX9_bows_X4_countBetween : GoodIn wsX9_bows wsX4_countBetween := goodIn_r _ [14, 15, 16, 17, 18, 13, 19, 20, 21, 22, 23, 24, 25, 26, 27, 28, 29, 30, 31, 32, 33, 34, 35, 36, 37, 38, 39, 40, 41, 42, 43, 44, 45, 46, 47, 8, 5, 9, 48, 49, 50, 51, 52, 53, 54, 55, 56, 57, 58, 59, 68, 69] (by decide +kernel) (by decide +kernel)
set_option maxRecDepth 20000 in
theorem gX9_bows_X4_countBetween : GoodIn wsX9_bows (wsV RX9 181 RX4 yX4_countBetween wsX4_countBetween) := goodIn_app (goodIn_of _ (by decide +kernel)) ggX9_bows_X4_countBetween
theorem dX9_bows_0 : decode cX9_bows 0 = .ok (.iload_n 1, 1) := by decide +kernel
theorem dX9_bows_1 : decode cX9_bows 1 = .ok (.invokestatic 177, 3) := by decide +kernel
theorem dX9_bows_4 : decode cX9_bows 4 = .ok (.ifCond .eq 23, 3) := by decide +kernel
theorem dX9_bows_7 : decode cX9_bows 7 = .ok (.iload_n 2, 1) := by decide +kernel
theorem dX9_bows_8 : decode cX9_bows 8 = .ok (.iconst 1, 1) := by decide +kernel
theorem dX9_bows_9 : decode cX9_bows 9 = .ok (.ldc 180, 2) := by decide +kernel
theorem dX9_bows_11 : decode cX9_bows 11 = .ok (.invokestatic 73, 3) := by decide +kernel
theorem dX9_bows_14 : decode cX9_bows 14 = .ok (.ifCond .eq 13, 3) := by decide +kernel
theorem dX9_bows_17 : decode cX9_bows 17 = .ok (.iload_n 3, 1) := by decide +kernel
theorem dX9_bows_18 : decode cX9_bows 18 = .ok (.iconst 1, 1) := by decide +kernel
theorem dX9_bows_19 : decode cX9_bows 19 = .ok (.ldc 180, 2) := by decide +kernel
theorem dX9_bows_21 : decode cX9_bows 21 = .ok (.invokestatic 73, 3) := by decide +kernel
theorem dX9_bows_24 : decode cX9_bows 24 = .ok (.ifCond .ne 6, 3) := by decide +kernel
theorem dX9_bows_27 : decode cX9_bows 27 = .ok (.bipush (-2), 2) := by decide +kernel
theorem dX9_bows_29 : decode cX9_bows 29 = .ok (.ireturn, 1) := by decide +kernel
theorem dX9_bows_30 : decode cX9_bows 30 = .ok (.iload_n 3, 1) := by decide +kernel
theorem dX9_bows_31 : decode cX9_bows 31 = .ok (.iload_n 2, 1) := by decide +kernel
theorem dX9_bows_32 : decode cX9_bows 32 = .ok (.if_icmp .ge 7, 3) := by decide +kernel
theorem dX9_bows_35 : decode cX9_bows 35 = .ok (.iconst 0, 1) := by decide +kernel
theorem dX9_bows_36 : decode cX9_bows 36 = .ok (.goto 13, 3) := by decide +kernel
theorem dX9_bows_39 : decode cX9_bows 39 = .ok (.aload_n 0, 1) := by decide +kernel
theorem dX9_bows_40 : decode cX9_bows 40 = .ok (.getfield 33, 3) := by decide +kernel
theorem dX9_bows_43 : decode cX9_bows 43 = .ok (.iload_n 1, 1) := by decide +kernel
theorem dX9_bows_44 : decode cX9_bows 44 = .ok (.iload_n 2, 1) := by decide +kernel
theorem dX9_bows_45 : decode cX9_bows 45 = .ok (.iload_n 3, 1) := by decide +kernel
theorem dX9_bows_46 : decode cX9_bows 46 = .ok (.invokevirtual 181, 3) := by decide +kernel
theorem dX9_bows_49 : decode cX9_bows 49 = .ok (.ireturn, 1) := by decide +kernel
set_option maxRecDepth 20000 in
theorem ggX9_next_X9_isLaw : GoodIn wsX9_next wsX9_isLaw := goodIn_r _ [5, 6, 7, 4, 8] (by decide +kernel) (by decide +kernel)
set_option maxRecDepth 20000 in
theorem gX9_next_X9_isLaw : GoodIn wsX9_next (va_wsS RX9 177 yX9_isLaw wsX9_isLaw) := goodIn_app (goodIn_of _ (by decide +kernel)) ggX9_next_X9_isLaw
set_option maxRecDepth 20000 in
theorem ggX9_next_X9_isWithin : GoodIn wsX9_next wsX9_isWithin := goodIn_r _ [8] (by decide +kernel) (by decide +kernel)
set_option maxRecDepth 20000 in
theorem gX9_next_X9_isWithin : GoodIn wsX9_next (va_wsS RX9 73 yX9_isWithin wsX9_isWithin) := goodIn_app (goodIn_of _ (by decide +kernel)) ggX9_next_X9_isWithin
set_option maxRecDepth 20000 in
theorem ggX9_next_X4_nearestAtOrBelow : GoodIn wsX9_next wsX4_nearestAtOrBelow := goodIn_r _ [12, 13, 14, 11, 15, 16, 17, 18, 19, 20, 21, 22, 23, 24, 25, 26, 27, 28, 29, 30, 31, 32, 33, 34, 35, 36, 37] (by decide +kernel) (by decide +kernel)
set_option maxRecDepth 20000 in
theorem gX9_next_X4_nearestAtOrBelow : GoodIn wsX9_next (va_wsS RX9 185 yX4_nearestAtOrBelow wsX4_nearestAtOrBelow) := goodIn_app (goodIn_of _ (by decide +kernel)) ggX9_next_X4_nearestAtOrBelow
theorem dX9_next_0 : decode cX9_next 0 = .ok (.iload_n 1, 1) := by decide +kernel
theorem dX9_next_1 : decode cX9_next 1 = .ok (.invokestatic 177, 3) := by decide +kernel
theorem dX9_next_4 : decode cX9_next 4 = .ok (.ifCond .eq 13, 3) := by decide +kernel
theorem dX9_next_7 : decode cX9_next 7 = .ok (.iload_n 2, 1) := by decide +kernel
theorem dX9_next_8 : decode cX9_next 8 = .ok (.iconst 0, 1) := by decide +kernel
theorem dX9_next_9 : decode cX9_next 9 = .ok (.ldc 103, 2) := by decide +kernel
theorem dX9_next_11 : decode cX9_next 11 = .ok (.invokestatic 73, 3) := by decide +kernel
theorem dX9_next_14 : decode cX9_next 14 = .ok (.ifCond .ne 6, 3) := by decide +kernel
theorem dX9_next_17 : decode cX9_next 17 = .ok (.bipush (-2), 2) := by decide +kernel
theorem dX9_next_19 : decode cX9_next 19 = .ok (.ireturn, 1) := by decide +kernel
theorem dX9_next_20 : decode cX9_next 20 = .ok (.iload_n 1, 1) := by decide +kernel
theorem dX9_next_21 : decode cX9_next 21 = .ok (.iload_n 2, 1) := by decide +kernel
theorem dX9_next_22 : decode cX9_next 22 = .ok (.invokestatic 185, 3) := by decide +kernel
theorem dX9_next_25 : decode cX9_next 25 = .ok (.ireturn, 1) := by decide +kernel
set_option maxRecDepth 20000 in
theorem ggX9_elbows_X9_isWithin : GoodIn wsX9_elbows wsX9_isWithin := goodIn_r _ [6] (by decide +kernel) (by decide +kernel)
set_option maxRecDepth 20000 in
theorem gX9_elbows_X9_isWithin : GoodIn wsX9_elbows (va_wsS RX9 73 yX9_isWithin wsX9_isWithin) := goodIn_app (goodIn_of _ (by decide +kernel)) ggX9_elbows_X9_isWithin
set_option maxRecDepth 20000 in
theorem ggX9_elbows_X2_commonestCount : GoodIn wsX9_elbows wsX2_commonestCount := goodIn_r _ [11, 12, 13, 14, 15, 10, 16, 17, 18, 19, 20, 21, 38, 39, 40, 41, 42, 43] (by decide +kernel) (by decide +kernel)
set_option maxRecDepth 20000 in
theorem gX9_elbows_X2_commonestCount : GoodIn wsX9_elbows (wsV RX9 188 RX2 yX2_commonestCount wsX2_commonestCount) := goodIn_app (goodIn_of _ (by decide +kernel)) ggX9_elbows_X2_commonestCount
set_option maxRecDepth 20000 in
theorem ggX9_elbows_J6_bitCount_0f7a4 : GoodIn wsX9_elbows wsJ6_bitCount_0f7a4 := goodIn_r _ [25, 26, 27, 28] (by decide +kernel) (by decide +kernel)
set_option maxRecDepth 20000 in
theorem gX9_elbows_J6_bitCount_0f7a4 : GoodIn wsX9_elbows (va_wsS RX9 84 yJ6_bitCount_0f7a4 wsJ6_bitCount_0f7a4) := goodIn_app (goodIn_of _ (by decide +kernel)) ggX9_elbows_J6_bitCount_0f7a4
set_option maxRecDepth 20000 in
theorem ggX9_elbows_X2_howManyAwakeAt : GoodIn wsX9_elbows wsX2_howManyAwakeAt := goodIn_r _ [21, 12, 13, 14, 15, 10, 16, 17, 38, 39, 40, 41, 42, 43] (by decide +kernel) (by decide +kernel)
set_option maxRecDepth 20000 in
theorem gX9_elbows_X2_howManyAwakeAt : GoodIn wsX9_elbows (wsV RX9 191 RX2 yX2_howManyAwakeAt wsX2_howManyAwakeAt) := goodIn_app (goodIn_of _ (by decide +kernel)) ggX9_elbows_X2_howManyAwakeAt
theorem dX9_elbows_0 : decode cX9_elbows 0 = .ok (.iload_n 1, 1) := by decide +kernel
theorem dX9_elbows_1 : decode cX9_elbows 1 = .ok (.iconst 0, 1) := by decide +kernel
theorem dX9_elbows_2 : decode cX9_elbows 2 = .ok (.iconst 1, 1) := by decide +kernel
theorem dX9_elbows_3 : decode cX9_elbows 3 = .ok (.invokestatic 73, 3) := by decide +kernel
theorem dX9_elbows_6 : decode cX9_elbows 6 = .ok (.ifCond .ne 6, 3) := by decide +kernel
theorem dX9_elbows_9 : decode cX9_elbows 9 = .ok (.bipush (-2), 2) := by decide +kernel
theorem dX9_elbows_11 : decode cX9_elbows 11 = .ok (.ireturn, 1) := by decide +kernel
theorem dX9_elbows_12 : decode cX9_elbows 12 = .ok (.aload_n 0, 1) := by decide +kernel
theorem dX9_elbows_13 : decode cX9_elbows 13 = .ok (.getfield 10, 3) := by decide +kernel
theorem dX9_elbows_16 : decode cX9_elbows 16 = .ok (.getfield 165, 3) := by decide +kernel
theorem dX9_elbows_19 : decode cX9_elbows 19 = .ok (.ifCond .ne 6, 3) := by decide +kernel
theorem dX9_elbows_22 : decode cX9_elbows 22 = .ok (.bipush (-6), 2) := by decide +kernel
theorem dX9_elbows_24 : decode cX9_elbows 24 = .ok (.ireturn, 1) := by decide +kernel
theorem dX9_elbows_25 : decode cX9_elbows 25 = .ok (.aload_n 0, 1) := by decide +kernel
theorem dX9_elbows_26 : decode cX9_elbows 26 = .ok (.getfield 10, 3) := by decide +kernel
theorem dX9_elbows_29 : decode cX9_elbows 29 = .ok (.invokevirtual 188, 3) := by decide +kernel
theorem dX9_elbows_32 : decode cX9_elbows 32 = .ok (.istore_n 2, 1) := by decide +kernel
theorem dX9_elbows_33 : decode cX9_elbows 33 = .ok (.iload_n 1, 1) := by decide +kernel
theorem dX9_elbows_34 : decode cX9_elbows 34 = .ok (.ifCond .ne 25, 3) := by decide +kernel
theorem dX9_elbows_37 : decode cX9_elbows 37 = .ok (.aload_n 0, 1) := by decide +kernel
theorem dX9_elbows_38 : decode cX9_elbows 38 = .ok (.getfield 10, 3) := by decide +kernel
theorem dX9_elbows_41 : decode cX9_elbows 41 = .ok (.getfield 165, 3) := by decide +kernel
theorem dX9_elbows_44 : decode cX9_elbows 44 = .ok (.invokestatic 84, 3) := by decide +kernel
theorem dX9_elbows_47 : decode cX9_elbows 47 = .ok (.aload_n 0, 1) := by decide +kernel
theorem dX9_elbows_48 : decode cX9_elbows 48 = .ok (.getfield 10, 3) := by decide +kernel
theorem dX9_elbows_51 : decode cX9_elbows 51 = .ok (.iload_n 2, 1) := by decide +kernel
theorem dX9_elbows_52 : decode cX9_elbows 52 = .ok (.invokevirtual 191, 3) := by decide +kernel
theorem dX9_elbows_55 : decode cX9_elbows 55 = .ok (.isub, 1) := by decide +kernel
theorem dX9_elbows_56 : decode cX9_elbows 56 = .ok (.goto 4, 3) := by decide +kernel
theorem dX9_elbows_59 : decode cX9_elbows 59 = .ok (.iload_n 2, 1) := by decide +kernel
theorem dX9_elbows_60 : decode cX9_elbows 60 = .ok (.ireturn, 1) := by decide +kernel
set_option maxRecDepth 20000 in
theorem ggX9_relays_X9_isWithin : GoodIn wsX9_relays wsX9_isWithin := goodIn_r _ [6] (by decide +kernel) (by decide +kernel)
set_option maxRecDepth 20000 in
theorem gX9_relays_X9_isWithin : GoodIn wsX9_relays (va_wsS RX9 73 yX9_isWithin wsX9_isWithin) := goodIn_app (goodIn_of _ (by decide +kernel)) ggX9_relays_X9_isWithin
set_option maxRecDepth 20000 in
theorem ggX9_relays_J6_bitCount_0f7a4 : GoodIn wsX9_relays wsJ6_bitCount_0f7a4 := goodIn_r _ [10, 11, 12, 13] (by decide +kernel) (by decide +kernel)
set_option maxRecDepth 20000 in
theorem gX9_relays_J6_bitCount_0f7a4 : GoodIn wsX9_relays (va_wsS RX9 84 yJ6_bitCount_0f7a4 wsJ6_bitCount_0f7a4) := goodIn_app (goodIn_of _ (by decide +kernel)) ggX9_relays_J6_bitCount_0f7a4
set_option maxRecDepth 20000 in
theorem ggX9_relays_X9_canRelay : GoodIn wsX9_relays wsX9_canRelay := goodIn_r _ [16] (by decide +kernel) (by decide +kernel)
set_option maxRecDepth 20000 in
theorem gX9_relays_X9_canRelay : GoodIn wsX9_relays (va_wsS RX9 194 yX9_canRelay wsX9_canRelay) := goodIn_app (goodIn_of _ (by decide +kernel)) ggX9_relays_X9_canRelay
theorem dX9_relays_0 : decode cX9_relays 0 = .ok (.iload_n 1, 1) := by decide +kernel
theorem dX9_relays_1 : decode cX9_relays 1 = .ok (.iconst 1, 1) := by decide +kernel
theorem dX9_relays_2 : decode cX9_relays 2 = .ok (.bipush 8, 2) := by decide +kernel
theorem dX9_relays_4 : decode cX9_relays 4 = .ok (.invokestatic 73, 3) := by decide +kernel
theorem dX9_relays_7 : decode cX9_relays 7 = .ok (.ifCond .eq 33, 3) := by decide +kernel
theorem dX9_relays_10 : decode cX9_relays 10 = .ok (.iload_n 2, 1) := by decide +kernel
theorem dX9_relays_11 : decode cX9_relays 11 = .ok (.iconst 1, 1) := by decide +kernel
theorem dX9_relays_12 : decode cX9_relays 12 = .ok (.bipush 24, 2) := by decide +kernel
theorem dX9_relays_14 : decode cX9_relays 14 = .ok (.invokestatic 73, 3) := by decide +kernel
theorem dX9_relays_17 : decode cX9_relays 17 = .ok (.ifCond .eq 23, 3) := by decide +kernel
theorem dX9_relays_20 : decode cX9_relays 20 = .ok (.iload_n 3, 1) := by decide +kernel
theorem dX9_relays_21 : decode cX9_relays 21 = .ok (.iconst 1, 1) := by decide +kernel
theorem dX9_relays_22 : decode cX9_relays 22 = .ok (.bipush 24, 2) := by decide +kernel
theorem dX9_relays_24 : decode cX9_relays 24 = .ok (.invokestatic 73, 3) := by decide +kernel
theorem dX9_relays_27 : decode cX9_relays 27 = .ok (.ifCond .eq 13, 3) := by decide +kernel
theorem dX9_relays_30 : decode cX9_relays 30 = .ok (.iload 4, 2) := by decide +kernel
theorem dX9_relays_32 : decode cX9_relays 32 = .ok (.iconst 0, 1) := by decide +kernel
theorem dX9_relays_33 : decode cX9_relays 33 = .ok (.iconst 1, 1) := by decide +kernel
theorem dX9_relays_34 : decode cX9_relays 34 = .ok (.invokestatic 73, 3) := by decide +kernel
theorem dX9_relays_37 : decode cX9_relays 37 = .ok (.ifCond .ne 6, 3) := by decide +kernel
theorem dX9_relays_40 : decode cX9_relays 40 = .ok (.bipush (-2), 2) := by decide +kernel
theorem dX9_relays_42 : decode cX9_relays 42 = .ok (.ireturn, 1) := by decide +kernel
theorem dX9_relays_43 : decode cX9_relays 43 = .ok (.iload 4, 2) := by decide +kernel
theorem dX9_relays_45 : decode cX9_relays 45 = .ok (.ifCond .ne 28, 3) := by decide +kernel
theorem dX9_relays_48 : decode cX9_relays 48 = .ok (.aload_n 0, 1) := by decide +kernel
theorem dX9_relays_49 : decode cX9_relays 49 = .ok (.getfield 10, 3) := by decide +kernel
theorem dX9_relays_52 : decode cX9_relays 52 = .ok (.getfield 81, 3) := by decide +kernel
theorem dX9_relays_55 : decode cX9_relays 55 = .ok (.invokestatic 84, 3) := by decide +kernel
theorem dX9_relays_58 : decode cX9_relays 58 = .ok (.iload_n 1, 1) := by decide +kernel
theorem dX9_relays_59 : decode cX9_relays 59 = .ok (.iload_n 2, 1) := by decide +kernel
theorem dX9_relays_60 : decode cX9_relays 60 = .ok (.iload_n 3, 1) := by decide +kernel
theorem dX9_relays_61 : decode cX9_relays 61 = .ok (.invokestatic 194, 3) := by decide +kernel
theorem dX9_relays_64 : decode cX9_relays 64 = .ok (.ifCond .eq 7, 3) := by decide +kernel
theorem dX9_relays_67 : decode cX9_relays 67 = .ok (.iconst 1, 1) := by decide +kernel
theorem dX9_relays_68 : decode cX9_relays 68 = .ok (.goto 4, 3) := by decide +kernel
theorem dX9_relays_71 : decode cX9_relays 71 = .ok (.iconst 0, 1) := by decide +kernel
theorem dX9_relays_72 : decode cX9_relays 72 = .ok (.ireturn, 1) := by decide +kernel
theorem dX9_relays_73 : decode cX9_relays 73 = .ok (.iconst 1, 1) := by decide +kernel
theorem dX9_relays_74 : decode cX9_relays 74 = .ok (.istore 5, 2) := by decide +kernel
theorem dX9_relays_76 : decode cX9_relays 76 = .ok (.iload 5, 2) := by decide +kernel
theorem dX9_relays_78 : decode cX9_relays 78 = .ok (.bipush 8, 2) := by decide +kernel
theorem dX9_relays_80 : decode cX9_relays 80 = .ok (.if_icmp .gt 23, 3) := by decide +kernel
theorem dX9_relays_83 : decode cX9_relays 83 = .ok (.iload 5, 2) := by decide +kernel
theorem dX9_relays_85 : decode cX9_relays 85 = .ok (.iload_n 1, 1) := by decide +kernel
theorem dX9_relays_86 : decode cX9_relays 86 = .ok (.iload_n 2, 1) := by decide +kernel
theorem dX9_relays_87 : decode cX9_relays 87 = .ok (.iload_n 3, 1) := by decide +kernel
theorem dX9_relays_88 : decode cX9_relays 88 = .ok (.invokestatic 194, 3) := by decide +kernel
theorem dX9_relays_91 : decode cX9_relays 91 = .ok (.ifCond .eq 6, 3) := by decide +kernel
theorem dX9_relays_94 : decode cX9_relays 94 = .ok (.iload 5, 2) := by decide +kernel
theorem dX9_relays_96 : decode cX9_relays 96 = .ok (.ireturn, 1) := by decide +kernel
theorem dX9_relays_97 : decode cX9_relays 97 = .ok (.iinc 5 1, 3) := by decide +kernel
theorem dX9_relays_100 : decode cX9_relays 100 = .ok (.goto (-24), 3) := by decide +kernel
theorem dX9_relays_103 : decode cX9_relays 103 = .ok (.bipush (-6), 2) := by decide +kernel
theorem dX9_relays_105 : decode cX9_relays 105 = .ok (.ireturn, 1) := by decide +kernel
theorem dX9_canRelay_0 : decode cX9_canRelay 0 = .ok (.iload_n 2, 1) := by decide +kernel
theorem dX9_canRelay_1 : decode cX9_canRelay 1 = .ok (.iconst 1, 1) := by decide +kernel
theorem dX9_canRelay_2 : decode cX9_canRelay 2 = .ok (.if_icmp .le 9, 3) := by decide +kernel
theorem dX9_canRelay_5 : decode cX9_canRelay 5 = .ok (.iconst 2, 1) := by decide +kernel
theorem dX9_canRelay_6 : decode cX9_canRelay 6 = .ok (.iload_n 1, 1) := by decide +kernel
theorem dX9_canRelay_7 : decode cX9_canRelay 7 = .ok (.imul, 1) := by decide +kernel
theorem dX9_canRelay_8 : decode cX9_canRelay 8 = .ok (.goto 4, 3) := by decide +kernel
theorem dX9_canRelay_11 : decode cX9_canRelay 11 = .ok (.iload_n 1, 1) := by decide +kernel
theorem dX9_canRelay_12 : decode cX9_canRelay 12 = .ok (.istore 4, 2) := by decide +kernel
theorem dX9_canRelay_14 : decode cX9_canRelay 14 = .ok (.iload_n 0, 1) := by decide +kernel
theorem dX9_canRelay_15 : decode cX9_canRelay 15 = .ok (.iload 4, 2) := by decide +kernel
theorem dX9_canRelay_17 : decode cX9_canRelay 17 = .ok (.if_icmp .lt 16, 3) := by decide +kernel
theorem dX9_canRelay_20 : decode cX9_canRelay 20 = .ok (.iload_n 0, 1) := by decide +kernel
theorem dX9_canRelay_21 : decode cX9_canRelay 21 = .ok (.iload_n 3, 1) := by decide +kernel
theorem dX9_canRelay_22 : decode cX9_canRelay 22 = .ok (.imul, 1) := by decide +kernel
theorem dX9_canRelay_23 : decode cX9_canRelay 23 = .ok (.iload_n 1, 1) := by decide +kernel
theorem dX9_canRelay_24 : decode cX9_canRelay 24 = .ok (.iload_n 2, 1) := by decide +kernel
theorem dX9_canRelay_25 : decode cX9_canRelay 25 = .ok (.imul, 1) := by decide +kernel
theorem dX9_canRelay_26 : decode cX9_canRelay 26 = .ok (.if_icmp .lt 7, 3) := by decide +kernel
theorem dX9_canRelay_29 : decode cX9_canRelay 29 = .ok (.iconst 1, 1) := by decide +kernel
theorem dX9_canRelay_30 : decode cX9_canRelay 30 = .ok (.goto 4, 3) := by decide +kernel
theorem dX9_canRelay_33 : decode cX9_canRelay 33 = .ok (.iconst 0, 1) := by decide +kernel
theorem dX9_canRelay_34 : decode cX9_canRelay 34 = .ok (.ireturn, 1) := by decide +kernel
set_option maxRecDepth 20000 in
theorem ggX9_beads_X9_isWithin : GoodIn wsX9_beads wsX9_isWithin := goodIn_r _ [8] (by decide +kernel) (by decide +kernel)
set_option maxRecDepth 20000 in
theorem gX9_beads_X9_isWithin : GoodIn wsX9_beads (va_wsS RX9 73 yX9_isWithin wsX9_isWithin) := goodIn_app (goodIn_of _ (by decide +kernel)) ggX9_beads_X9_isWithin
theorem dX9_beads_0 : decode cX9_beads 0 = .ok (.iload_n 1, 1) := by decide +kernel
theorem dX9_beads_1 : decode cX9_beads 1 = .ok (.iconst 0, 1) := by decide +kernel
theorem dX9_beads_2 : decode cX9_beads 2 = .ok (.sipush 200, 3) := by decide +kernel
theorem dX9_beads_5 : decode cX9_beads 5 = .ok (.invokestatic 73, 3) := by decide +kernel
theorem dX9_beads_8 : decode cX9_beads 8 = .ok (.ifCond .eq 12, 3) := by decide +kernel
theorem dX9_beads_11 : decode cX9_beads 11 = .ok (.iload_n 2, 1) := by decide +kernel
theorem dX9_beads_12 : decode cX9_beads 12 = .ok (.iconst 0, 1) := by decide +kernel
theorem dX9_beads_13 : decode cX9_beads 13 = .ok (.iconst 1, 1) := by decide +kernel
theorem dX9_beads_14 : decode cX9_beads 14 = .ok (.invokestatic 73, 3) := by decide +kernel
theorem dX9_beads_17 : decode cX9_beads 17 = .ok (.ifCond .ne 6, 3) := by decide +kernel
theorem dX9_beads_20 : decode cX9_beads 20 = .ok (.bipush (-2), 2) := by decide +kernel
theorem dX9_beads_22 : decode cX9_beads 22 = .ok (.ireturn, 1) := by decide +kernel
theorem dX9_beads_23 : decode cX9_beads 23 = .ok (.bipush (-6), 2) := by decide +kernel
theorem dX9_beads_25 : decode cX9_beads 25 = .ok (.istore_n 3, 1) := by decide +kernel
theorem dX9_beads_26 : decode cX9_beads 26 = .ok (.iconst 0, 1) := by decide +kernel
theorem dX9_beads_27 : decode cX9_beads 27 = .ok (.istore 4, 2) := by decide +kernel
theorem dX9_beads_29 : decode cX9_beads 29 = .ok (.iconst 0, 1) := by decide +kernel
theorem dX9_beads_30 : decode cX9_beads 30 = .ok (.istore 5, 2) := by decide +kernel
theorem dX9_beads_32 : decode cX9_beads 32 = .ok (.bipush 12, 2) := by decide +kernel
theorem dX9_beads_34 : decode cX9_beads 34 = .ok (.iload 5, 2) := by decide +kernel
theorem dX9_beads_36 : decode cX9_beads 36 = .ok (.imul, 1) := by decide +kernel
theorem dX9_beads_37 : decode cX9_beads 37 = .ok (.iload_n 1, 1) := by decide +kernel
theorem dX9_beads_38 : decode cX9_beads 38 = .ok (.if_icmp .gt 91, 3) := by decide +kernel
theorem dX9_beads_41 : decode cX9_beads 41 = .ok (.iconst 0, 1) := by decide +kernel
theorem dX9_beads_42 : decode cX9_beads 42 = .ok (.istore 6, 2) := by decide +kernel
theorem dX9_beads_44 : decode cX9_beads 44 = .ok (.bipush 12, 2) := by decide +kernel
theorem dX9_beads_46 : decode cX9_beads 46 = .ok (.iload 5, 2) := by decide +kernel
theorem dX9_beads_48 : decode cX9_beads 48 = .ok (.imul, 1) := by decide +kernel
theorem dX9_beads_49 : decode cX9_beads 49 = .ok (.bipush 7, 2) := by decide +kernel
theorem dX9_beads_51 : decode cX9_beads 51 = .ok (.iload 6, 2) := by decide +kernel
theorem dX9_beads_53 : decode cX9_beads 53 = .ok (.imul, 1) := by decide +kernel
theorem dX9_beads_54 : decode cX9_beads 54 = .ok (.iadd, 1) := by decide +kernel
theorem dX9_beads_55 : decode cX9_beads 55 = .ok (.iload_n 1, 1) := by decide +kernel
theorem dX9_beads_56 : decode cX9_beads 56 = .ok (.if_icmp .gt 67, 3) := by decide +kernel
theorem dX9_beads_59 : decode cX9_beads 59 = .ok (.iload_n 1, 1) := by decide +kernel
theorem dX9_beads_60 : decode cX9_beads 60 = .ok (.bipush 12, 2) := by decide +kernel
theorem dX9_beads_62 : decode cX9_beads 62 = .ok (.iload 5, 2) := by decide +kernel
theorem dX9_beads_64 : decode cX9_beads 64 = .ok (.imul, 1) := by decide +kernel
theorem dX9_beads_65 : decode cX9_beads 65 = .ok (.isub, 1) := by decide +kernel
theorem dX9_beads_66 : decode cX9_beads 66 = .ok (.bipush 7, 2) := by decide +kernel
theorem dX9_beads_68 : decode cX9_beads 68 = .ok (.iload 6, 2) := by decide +kernel
theorem dX9_beads_70 : decode cX9_beads 70 = .ok (.imul, 1) := by decide +kernel
theorem dX9_beads_71 : decode cX9_beads 71 = .ok (.isub, 1) := by decide +kernel
theorem dX9_beads_72 : decode cX9_beads 72 = .ok (.istore 7, 2) := by decide +kernel
theorem dX9_beads_74 : decode cX9_beads 74 = .ok (.iload 7, 2) := by decide +kernel
theorem dX9_beads_76 : decode cX9_beads 76 = .ok (.iconst 5, 1) := by decide +kernel
theorem dX9_beads_77 : decode cX9_beads 77 = .ok (.irem, 1) := by decide +kernel
theorem dX9_beads_78 : decode cX9_beads 78 = .ok (.ifCond .eq 6, 3) := by decide +kernel
theorem dX9_beads_81 : decode cX9_beads 81 = .ok (.goto 36, 3) := by decide +kernel
theorem dX9_beads_84 : decode cX9_beads 84 = .ok (.iload 5, 2) := by decide +kernel
theorem dX9_beads_86 : decode cX9_beads 86 = .ok (.iload 6, 2) := by decide +kernel
theorem dX9_beads_88 : decode cX9_beads 88 = .ok (.iadd, 1) := by decide +kernel
theorem dX9_beads_89 : decode cX9_beads 89 = .ok (.iload 7, 2) := by decide +kernel
theorem dX9_beads_91 : decode cX9_beads 91 = .ok (.iconst 5, 1) := by decide +kernel
theorem dX9_beads_92 : decode cX9_beads 92 = .ok (.idiv, 1) := by decide +kernel
theorem dX9_beads_93 : decode cX9_beads 93 = .ok (.iadd, 1) := by decide +kernel
theorem dX9_beads_94 : decode cX9_beads 94 = .ok (.istore 8, 2) := by decide +kernel
theorem dX9_beads_96 : decode cX9_beads 96 = .ok (.iload_n 3, 1) := by decide +kernel
theorem dX9_beads_97 : decode cX9_beads 97 = .ok (.bipush (-6), 2) := by decide +kernel
theorem dX9_beads_99 : decode cX9_beads 99 = .ok (.if_icmp .ne 8, 3) := by decide +kernel
theorem dX9_beads_102 : decode cX9_beads 102 = .ok (.iload 8, 2) := by decide +kernel
theorem dX9_beads_104 : decode cX9_beads 104 = .ok (.goto 9, 3) := by decide +kernel
theorem dX9_beads_107 : decode cX9_beads 107 = .ok (.iload_n 3, 1) := by decide +kernel
theorem dX9_beads_108 : decode cX9_beads 108 = .ok (.iload 8, 2) := by decide +kernel
theorem dX9_beads_110 : decode cX9_beads 110 = .ok (.invokestatic 198, 3) := by decide +kernel
theorem dX9_beads_113 : decode cX9_beads 113 = .ok (.istore_n 3, 1) := by decide +kernel
theorem dX9_beads_114 : decode cX9_beads 114 = .ok (.iinc 4 1, 3) := by decide +kernel
theorem dX9_beads_117 : decode cX9_beads 117 = .ok (.iinc 6 1, 3) := by decide +kernel
theorem dX9_beads_120 : decode cX9_beads 120 = .ok (.goto (-76), 3) := by decide +kernel
theorem dX9_beads_123 : decode cX9_beads 123 = .ok (.iinc 5 1, 3) := by decide +kernel
theorem dX9_beads_126 : decode cX9_beads 126 = .ok (.goto (-94), 3) := by decide +kernel
theorem dX9_beads_129 : decode cX9_beads 129 = .ok (.iload_n 2, 1) := by decide +kernel
theorem dX9_beads_130 : decode cX9_beads 130 = .ok (.ifCond .ne 7, 3) := by decide +kernel
theorem dX9_beads_133 : decode cX9_beads 133 = .ok (.iload_n 3, 1) := by decide +kernel
theorem dX9_beads_134 : decode cX9_beads 134 = .ok (.goto 5, 3) := by decide +kernel
theorem dX9_beads_137 : decode cX9_beads 137 = .ok (.iload 4, 2) := by decide +kernel
theorem dX9_beads_139 : decode cX9_beads 139 = .ok (.ireturn, 1) := by decide +kernel
set_option maxRecDepth 20000 in
theorem ggX9_seen_X2_isThere : GoodIn wsX9_seen wsX2_isThere := goodIn_r _ [8, 9, 35, 36, 37, 38, 39, 40] (by decide +kernel) (by decide +kernel)
set_option maxRecDepth 20000 in
theorem gX9_seen_X2_isThere : GoodIn wsX9_seen (wsV RX9 90 RX2 yX2_isThere wsX2_isThere) := goodIn_app (goodIn_of _ (by decide +kernel)) ggX9_seen_X2_isThere
set_option maxRecDepth 20000 in
theorem ggX9_seen_X9_isWithin : GoodIn wsX9_seen wsX9_isWithin := goodIn_r _ [13] (by decide +kernel) (by decide +kernel)
set_option maxRecDepth 20000 in
theorem gX9_seen_X9_isWithin : GoodIn wsX9_seen (va_wsS RX9 73 yX9_isWithin wsX9_isWithin) := goodIn_app (goodIn_of _ (by decide +kernel)) ggX9_seen_X9_isWithin
set_option maxRecDepth 20000 in
theorem ggX9_seen_X6_add : GoodIn wsX9_seen wsX6_add := goodIn_r _ [18, 19, 20, 21, 22, 31, 32, 33, 34] (by decide +kernel) (by decide +kernel)
set_option maxRecDepth 20000 in
theorem gX9_seen_X6_add : GoodIn wsX9_seen (wsV RX9 203 RX6 yX6_add wsX6_add) := goodIn_app (goodIn_of _ (by decide +kernel)) ggX9_seen_X6_add
theorem dX9_seen_0 : decode cX9_seen 0 = .ok (.aload_n 0, 1) := by decide +kernel
theorem dX9_seen_1 : decode cX9_seen 1 = .ok (.getfield 10, 3) := by decide +kernel
theorem dX9_seen_4 : decode cX9_seen 4 = .ok (.iload_n 1, 1) := by decide +kernel
theorem dX9_seen_5 : decode cX9_seen 5 = .ok (.invokevirtual 90, 3) := by decide +kernel
theorem dX9_seen_8 : decode cX9_seen 8 = .ok (.ifCond .ne 5, 3) := by decide +kernel
theorem dX9_seen_11 : decode cX9_seen 11 = .ok (.iconst (-1), 1) := by decide +kernel
theorem dX9_seen_12 : decode cX9_seen 12 = .ok (.ireturn, 1) := by decide +kernel
theorem dX9_seen_13 : decode cX9_seen 13 = .ok (.iload_n 2, 1) := by decide +kernel
theorem dX9_seen_14 : decode cX9_seen 14 = .ok (.iconst 0, 1) := by decide +kernel
theorem dX9_seen_15 : decode cX9_seen 15 = .ok (.bipush 99, 2) := by decide +kernel
theorem dX9_seen_17 : decode cX9_seen 17 = .ok (.invokestatic 73, 3) := by decide +kernel
theorem dX9_seen_20 : decode cX9_seen 20 = .ok (.ifCond .ne 6, 3) := by decide +kernel
theorem dX9_seen_23 : decode cX9_seen 23 = .ok (.bipush (-2), 2) := by decide +kernel
theorem dX9_seen_25 : decode cX9_seen 25 = .ok (.ireturn, 1) := by decide +kernel
theorem dX9_seen_26 : decode cX9_seen 26 = .ok (.aload_n 0, 1) := by decide +kernel
theorem dX9_seen_27 : decode cX9_seen 27 = .ok (.getfield 40, 3) := by decide +kernel
theorem dX9_seen_30 : decode cX9_seen 30 = .ok (.iload_n 1, 1) := by decide +kernel
theorem dX9_seen_31 : decode cX9_seen 31 = .ok (.iload_n 2, 1) := by decide +kernel
theorem dX9_seen_32 : decode cX9_seen 32 = .ok (.iload_n 3, 1) := by decide +kernel
theorem dX9_seen_33 : decode cX9_seen 33 = .ok (.invokevirtual 203, 3) := by decide +kernel
theorem dX9_seen_36 : decode cX9_seen 36 = .ok (.ifCond .eq 13, 3) := by decide +kernel
theorem dX9_seen_39 : decode cX9_seen 39 = .ok (.aload_n 0, 1) := by decide +kernel
theorem dX9_seen_40 : decode cX9_seen 40 = .ok (.getfield 40, 3) := by decide +kernel
theorem dX9_seen_43 : decode cX9_seen 43 = .ok (.getfield 206, 3) := by decide +kernel
theorem dX9_seen_46 : decode cX9_seen 46 = .ok (.goto 5, 3) := by decide +kernel
theorem dX9_seen_49 : decode cX9_seen 49 = .ok (.bipush (-4), 2) := by decide +kernel
theorem dX9_seen_51 : decode cX9_seen 51 = .ok (.ireturn, 1) := by decide +kernel
theorem dX9_forget_0 : decode cX9_forget 0 = .ok (.aload_n 0, 1) := by decide +kernel
theorem dX9_forget_1 : decode cX9_forget 1 = .ok (.getfield 40, 3) := by decide +kernel
theorem dX9_forget_4 : decode cX9_forget 4 = .ok (.getfield 206, 3) := by decide +kernel
theorem dX9_forget_7 : decode cX9_forget 7 = .ok (.istore_n 1, 1) := by decide +kernel
theorem dX9_forget_8 : decode cX9_forget 8 = .ok (.aload_n 0, 1) := by decide +kernel
theorem dX9_forget_9 : decode cX9_forget 9 = .ok (.getfield 40, 3) := by decide +kernel
theorem dX9_forget_12 : decode cX9_forget 12 = .ok (.iconst 0, 1) := by decide +kernel
theorem dX9_forget_13 : decode cX9_forget 13 = .ok (.putfield 206, 3) := by decide +kernel
theorem dX9_forget_16 : decode cX9_forget 16 = .ok (.iload_n 1, 1) := by decide +kernel
theorem dX9_forget_17 : decode cX9_forget 17 = .ok (.ireturn, 1) := by decide +kernel
set_option maxRecDepth 20000 in
theorem ggX9_skips_X9_isLaw : GoodIn wsX9_skips wsX9_isLaw := goodIn_r _ [10, 11, 12, 9, 13] (by decide +kernel) (by decide +kernel)
set_option maxRecDepth 20000 in
theorem gX9_skips_X9_isLaw : GoodIn wsX9_skips (va_wsS RX9 177 yX9_isLaw wsX9_isLaw) := goodIn_app (goodIn_of _ (by decide +kernel)) ggX9_skips_X9_isLaw
set_option maxRecDepth 20000 in
theorem ggX9_skips_X9_isWithin : GoodIn wsX9_skips wsX9_isWithin := goodIn_r _ [13] (by decide +kernel) (by decide +kernel)
set_option maxRecDepth 20000 in
theorem gX9_skips_X9_isWithin : GoodIn wsX9_skips (va_wsS RX9 73 yX9_isWithin wsX9_isWithin) := goodIn_app (goodIn_of _ (by decide +kernel)) ggX9_skips_X9_isWithin
set_option maxRecDepth 20000 in
theorem ggX9_skips_X7_find : GoodIn wsX9_skips wsX7_find := goodIn_r _ [18, 19, 20, 21, 22, 23, 24, 17, 25, 26, 27, 28, 29, 30, 31, 32, 33, 34, 35, 36, 37, 38, 39, 40, 41, 42, 43, 44, 45, 46, 47, 48, 49, 50, 51, 52, 53, 54, 55, 56, 57, 58, 59, 60, 61, 62, 63, 64, 65, 66, 67, 68, 69, 70, 71, 72, 73, 74, 75, 76, 77, 78, 79, 80, 89, 90, 91, 92, 93, 94, 95, 96, 97, 98, 99, 100, 101, 102] (by decide +kernel) (by decide +kernel)
set_option maxRecDepth 20000 in
theorem gX9_skips_X7_find : GoodIn wsX9_skips (wsV RX9 207 RX7 yX7_find wsX7_find) := goodIn_app (goodIn_of _ (by decide +kernel)) ggX9_skips_X7_find
theorem dX9_skips_0 : decode cX9_skips 0 = .ok (.iload_n 1, 1) := by decide +kernel
theorem dX9_skips_1 : decode cX9_skips 1 = .ok (.invokestatic 177, 3) := by decide +kernel
theorem dX9_skips_4 : decode cX9_skips 4 = .ok (.ifCond .eq 12, 3) := by decide +kernel
theorem dX9_skips_7 : decode cX9_skips 7 = .ok (.iload_n 2, 1) := by decide +kernel
theorem dX9_skips_8 : decode cX9_skips 8 = .ok (.iconst 0, 1) := by decide +kernel
theorem dX9_skips_9 : decode cX9_skips 9 = .ok (.iconst 2, 1) := by decide +kernel
theorem dX9_skips_10 : decode cX9_skips 10 = .ok (.invokestatic 73, 3) := by decide +kernel
theorem dX9_skips_13 : decode cX9_skips 13 = .ok (.ifCond .ne 6, 3) := by decide +kernel
theorem dX9_skips_16 : decode cX9_skips 16 = .ok (.bipush (-2), 2) := by decide +kernel
theorem dX9_skips_18 : decode cX9_skips 18 = .ok (.ireturn, 1) := by decide +kernel
theorem dX9_skips_19 : decode cX9_skips 19 = .ok (.aload_n 0, 1) := by decide +kernel
theorem dX9_skips_20 : decode cX9_skips 20 = .ok (.getfield 47, 3) := by decide +kernel
theorem dX9_skips_23 : decode cX9_skips 23 = .ok (.iload_n 1, 1) := by decide +kernel
theorem dX9_skips_24 : decode cX9_skips 24 = .ok (.aload_n 0, 1) := by decide +kernel
theorem dX9_skips_25 : decode cX9_skips 25 = .ok (.getfield 10, 3) := by decide +kernel
theorem dX9_skips_28 : decode cX9_skips 28 = .ok (.aload_n 0, 1) := by decide +kernel
theorem dX9_skips_29 : decode cX9_skips 29 = .ok (.getfield 40, 3) := by decide +kernel
theorem dX9_skips_32 : decode cX9_skips 32 = .ok (.invokevirtual 207, 3) := by decide +kernel
theorem dX9_skips_35 : decode cX9_skips 35 = .ok (.iload_n 2, 1) := by decide +kernel
theorem dX9_skips_36 : decode cX9_skips 36 = .ok (.ifCond .ne 11, 3) := by decide +kernel
theorem dX9_skips_39 : decode cX9_skips 39 = .ok (.aload_n 0, 1) := by decide +kernel
theorem dX9_skips_40 : decode cX9_skips 40 = .ok (.getfield 47, 3) := by decide +kernel
theorem dX9_skips_43 : decode cX9_skips 43 = .ok (.getfield 211, 3) := by decide +kernel
theorem dX9_skips_46 : decode cX9_skips 46 = .ok (.ireturn, 1) := by decide +kernel
theorem dX9_skips_47 : decode cX9_skips 47 = .ok (.iload_n 2, 1) := by decide +kernel
theorem dX9_skips_48 : decode cX9_skips 48 = .ok (.iconst 1, 1) := by decide +kernel
theorem dX9_skips_49 : decode cX9_skips 49 = .ok (.if_icmp .ne 11, 3) := by decide +kernel
theorem dX9_skips_52 : decode cX9_skips 52 = .ok (.aload_n 0, 1) := by decide +kernel
theorem dX9_skips_53 : decode cX9_skips 53 = .ok (.getfield 47, 3) := by decide +kernel
theorem dX9_skips_56 : decode cX9_skips 56 = .ok (.getfield 212, 3) := by decide +kernel
theorem dX9_skips_59 : decode cX9_skips 59 = .ok (.ireturn, 1) := by decide +kernel
theorem dX9_skips_60 : decode cX9_skips 60 = .ok (.aload_n 0, 1) := by decide +kernel
theorem dX9_skips_61 : decode cX9_skips 61 = .ok (.getfield 47, 3) := by decide +kernel
theorem dX9_skips_64 : decode cX9_skips 64 = .ok (.getfield 215, 3) := by decide +kernel
theorem dX9_skips_67 : decode cX9_skips 67 = .ok (.ifCond .eq 7, 3) := by decide +kernel
theorem dX9_skips_70 : decode cX9_skips 70 = .ok (.iconst 1, 1) := by decide +kernel
theorem dX9_skips_71 : decode cX9_skips 71 = .ok (.goto 4, 3) := by decide +kernel
theorem dX9_skips_74 : decode cX9_skips 74 = .ok (.iconst 0, 1) := by decide +kernel
theorem dX9_skips_75 : decode cX9_skips 75 = .ok (.ireturn, 1) := by decide +kernel
set_option maxRecDepth 20000 in
theorem ggX9_ask_X9_isLaw : GoodIn wsX9_ask wsX9_isLaw := goodIn_r _ [8, 9, 10, 7, 11] (by decide +kernel) (by decide +kernel)
set_option maxRecDepth 20000 in
theorem gX9_ask_X9_isLaw : GoodIn wsX9_ask (va_wsS RX9 177 yX9_isLaw wsX9_isLaw) := goodIn_app (goodIn_of _ (by decide +kernel)) ggX9_ask_X9_isLaw
set_option maxRecDepth 20000 in
theorem ggX9_ask_X9_isWithin : GoodIn wsX9_ask wsX9_isWithin := goodIn_r _ [11] (by decide +kernel) (by decide +kernel)
set_option maxRecDepth 20000 in
theorem gX9_ask_X9_isWithin : GoodIn wsX9_ask (va_wsS RX9 73 yX9_isWithin wsX9_isWithin) := goodIn_app (goodIn_of _ (by decide +kernel)) ggX9_ask_X9_isWithin
set_option maxRecDepth 20000 in
theorem ggX9_ask_X7_find : GoodIn wsX9_ask wsX7_find := goodIn_r _ [16, 17, 18, 19, 20, 21, 22, 15, 23, 24, 25, 26, 27, 28, 29, 30, 31, 32, 33, 34, 35, 36, 37, 38, 39, 40, 41, 42, 43, 44, 45, 46, 47, 48, 49, 50, 51, 52, 53, 54, 55, 56, 57, 58, 59, 60, 61, 62, 63, 64, 65, 66, 67, 68, 69, 70, 71, 72, 73, 74, 75, 76, 77, 78, 93, 94, 95, 96, 97, 98, 99, 100, 101, 102, 103, 104, 105, 106] (by decide +kernel) (by decide +kernel)
set_option maxRecDepth 20000 in
theorem gX9_ask_X7_find : GoodIn wsX9_ask (wsV RX9 207 RX7 yX7_find wsX7_find) := goodIn_app (goodIn_of _ (by decide +kernel)) ggX9_ask_X7_find
set_option maxRecDepth 20000 in
theorem ggX9_ask_X2_isAwake : GoodIn wsX9_ask wsX2_isAwake := goodIn_r _ [38, 39, 101, 102, 103, 104, 105, 106] (by decide +kernel) (by decide +kernel)
set_option maxRecDepth 20000 in
theorem gX9_ask_X2_isAwake : GoodIn wsX9_ask (wsV RX9 171 RX2 yX2_isAwake wsX2_isAwake) := goodIn_app (goodIn_of _ (by decide +kernel)) ggX9_ask_X2_isAwake
set_option maxRecDepth 20000 in
theorem ggX9_ask_X7_leftAtTheMost : GoodIn wsX9_ask wsX7_leftAtTheMost := goodIn_r _ [83, 20, 18, 84, 47, 48, 49, 31, 32, 15, 33, 34, 35, 36, 37, 38, 39, 40, 41, 42, 43, 44, 45, 46, 50, 51, 52, 53, 54, 55, 56, 57, 58, 59, 60, 61, 62, 63, 64, 65, 66, 67, 68, 72, 73, 74, 75, 76, 77, 78, 93, 94, 95, 96, 101, 102, 103, 104, 105, 106] (by decide +kernel) (by decide +kernel)
set_option maxRecDepth 20000 in
theorem gX9_ask_X7_leftAtTheMost : GoodIn wsX9_ask (wsV RX9 218 RX7 yX7_leftAtTheMost wsX7_leftAtTheMost) := goodIn_app (goodIn_of _ (by decide +kernel)) ggX9_ask_X7_leftAtTheMost
theorem dX9_ask_0 : decode cX9_ask 0 = .ok (.iload_n 1, 1) := by decide +kernel
theorem dX9_ask_1 : decode cX9_ask 1 = .ok (.invokestatic 177, 3) := by decide +kernel
theorem dX9_ask_4 : decode cX9_ask 4 = .ok (.ifCond .eq 22, 3) := by decide +kernel
theorem dX9_ask_7 : decode cX9_ask 7 = .ok (.iload_n 2, 1) := by decide +kernel
theorem dX9_ask_8 : decode cX9_ask 8 = .ok (.iconst 0, 1) := by decide +kernel
theorem dX9_ask_9 : decode cX9_ask 9 = .ok (.bipush 99, 2) := by decide +kernel
theorem dX9_ask_11 : decode cX9_ask 11 = .ok (.invokestatic 73, 3) := by decide +kernel
theorem dX9_ask_14 : decode cX9_ask 14 = .ok (.ifCond .eq 12, 3) := by decide +kernel
theorem dX9_ask_17 : decode cX9_ask 17 = .ok (.iload_n 3, 1) := by decide +kernel
theorem dX9_ask_18 : decode cX9_ask 18 = .ok (.iconst 0, 1) := by decide +kernel
theorem dX9_ask_19 : decode cX9_ask 19 = .ok (.iconst 1, 1) := by decide +kernel
theorem dX9_ask_20 : decode cX9_ask 20 = .ok (.invokestatic 73, 3) := by decide +kernel
theorem dX9_ask_23 : decode cX9_ask 23 = .ok (.ifCond .ne 6, 3) := by decide +kernel
theorem dX9_ask_26 : decode cX9_ask 26 = .ok (.bipush (-2), 2) := by decide +kernel
theorem dX9_ask_28 : decode cX9_ask 28 = .ok (.ireturn, 1) := by decide +kernel
theorem dX9_ask_29 : decode cX9_ask 29 = .ok (.aload_n 0, 1) := by decide +kernel
theorem dX9_ask_30 : decode cX9_ask 30 = .ok (.getfield 47, 3) := by decide +kernel
theorem dX9_ask_33 : decode cX9_ask 33 = .ok (.iload_n 1, 1) := by decide +kernel
theorem dX9_ask_34 : decode cX9_ask 34 = .ok (.aload_n 0, 1) := by decide +kernel
theorem dX9_ask_35 : decode cX9_ask 35 = .ok (.getfield 10, 3) := by decide +kernel
theorem dX9_ask_38 : decode cX9_ask 38 = .ok (.aload_n 0, 1) := by decide +kernel
theorem dX9_ask_39 : decode cX9_ask 39 = .ok (.getfield 40, 3) := by decide +kernel
theorem dX9_ask_42 : decode cX9_ask 42 = .ok (.invokevirtual 207, 3) := by decide +kernel
theorem dX9_ask_45 : decode cX9_ask 45 = .ok (.aload_n 0, 1) := by decide +kernel
theorem dX9_ask_46 : decode cX9_ask 46 = .ok (.getfield 47, 3) := by decide +kernel
theorem dX9_ask_49 : decode cX9_ask 49 = .ok (.getfield 211, 3) := by decide +kernel
theorem dX9_ask_52 : decode cX9_ask 52 = .ok (.ifCond .ne 6, 3) := by decide +kernel
theorem dX9_ask_55 : decode cX9_ask 55 = .ok (.bipush (-6), 2) := by decide +kernel
theorem dX9_ask_57 : decode cX9_ask 57 = .ok (.ireturn, 1) := by decide +kernel
theorem dX9_ask_58 : decode cX9_ask 58 = .ok (.bipush (-6), 2) := by decide +kernel
theorem dX9_ask_60 : decode cX9_ask 60 = .ok (.istore 4, 2) := by decide +kernel
theorem dX9_ask_62 : decode cX9_ask 62 = .ok (.bipush (-6), 2) := by decide +kernel
theorem dX9_ask_64 : decode cX9_ask 64 = .ok (.istore 5, 2) := by decide +kernel
theorem dX9_ask_66 : decode cX9_ask 66 = .ok (.iconst 0, 1) := by decide +kernel
theorem dX9_ask_67 : decode cX9_ask 67 = .ok (.istore 6, 2) := by decide +kernel
theorem dX9_ask_69 : decode cX9_ask 69 = .ok (.iload 6, 2) := by decide +kernel
theorem dX9_ask_71 : decode cX9_ask 71 = .ok (.bipush 8, 2) := by decide +kernel
theorem dX9_ask_73 : decode cX9_ask 73 = .ok (.if_icmp .ge 63, 3) := by decide +kernel
theorem dX9_ask_76 : decode cX9_ask 76 = .ok (.aload_n 0, 1) := by decide +kernel
theorem dX9_ask_77 : decode cX9_ask 77 = .ok (.getfield 10, 3) := by decide +kernel
theorem dX9_ask_80 : decode cX9_ask 80 = .ok (.iload 6, 2) := by decide +kernel
theorem dX9_ask_82 : decode cX9_ask 82 = .ok (.invokevirtual 171, 3) := by decide +kernel
theorem dX9_ask_85 : decode cX9_ask 85 = .ok (.ifCond .ne 6, 3) := by decide +kernel
theorem dX9_ask_88 : decode cX9_ask 88 = .ok (.goto 42, 3) := by decide +kernel
theorem dX9_ask_91 : decode cX9_ask 91 = .ok (.aload_n 0, 1) := by decide +kernel
theorem dX9_ask_92 : decode cX9_ask 92 = .ok (.getfield 47, 3) := by decide +kernel
theorem dX9_ask_95 : decode cX9_ask 95 = .ok (.iload_n 1, 1) := by decide +kernel
theorem dX9_ask_96 : decode cX9_ask 96 = .ok (.aload_n 0, 1) := by decide +kernel
theorem dX9_ask_97 : decode cX9_ask 97 = .ok (.getfield 10, 3) := by decide +kernel
theorem dX9_ask_100 : decode cX9_ask 100 = .ok (.iload 6, 2) := by decide +kernel
theorem dX9_ask_102 : decode cX9_ask 102 = .ok (.iload_n 2, 1) := by decide +kernel
theorem dX9_ask_103 : decode cX9_ask 103 = .ok (.invokevirtual 218, 3) := by decide +kernel
theorem dX9_ask_106 : decode cX9_ask 106 = .ok (.istore 7, 2) := by decide +kernel
theorem dX9_ask_108 : decode cX9_ask 108 = .ok (.iload 4, 2) := by decide +kernel
theorem dX9_ask_110 : decode cX9_ask 110 = .ok (.bipush (-6), 2) := by decide +kernel
theorem dX9_ask_112 : decode cX9_ask 112 = .ok (.if_icmp .eq 10, 3) := by decide +kernel
theorem dX9_ask_115 : decode cX9_ask 115 = .ok (.iload 7, 2) := by decide +kernel
theorem dX9_ask_117 : decode cX9_ask 117 = .ok (.iload 5, 2) := by decide +kernel
theorem dX9_ask_119 : decode cX9_ask 119 = .ok (.if_icmp .ge 11, 3) := by decide +kernel
theorem dX9_ask_122 : decode cX9_ask 122 = .ok (.iload 6, 2) := by decide +kernel
theorem dX9_ask_124 : decode cX9_ask 124 = .ok (.istore 4, 2) := by decide +kernel
theorem dX9_ask_126 : decode cX9_ask 126 = .ok (.iload 7, 2) := by decide +kernel
theorem dX9_ask_128 : decode cX9_ask 128 = .ok (.istore 5, 2) := by decide +kernel
theorem dX9_ask_130 : decode cX9_ask 130 = .ok (.iinc 6 1, 3) := by decide +kernel
theorem dX9_ask_133 : decode cX9_ask 133 = .ok (.goto (-64), 3) := by decide +kernel
theorem dX9_ask_136 : decode cX9_ask 136 = .ok (.iload_n 3, 1) := by decide +kernel
theorem dX9_ask_137 : decode cX9_ask 137 = .ok (.ifCond .ne 8, 3) := by decide +kernel
theorem dX9_ask_140 : decode cX9_ask 140 = .ok (.iload 4, 2) := by decide +kernel
theorem dX9_ask_142 : decode cX9_ask 142 = .ok (.goto 5, 3) := by decide +kernel
theorem dX9_ask_145 : decode cX9_ask 145 = .ok (.iload 5, 2) := by decide +kernel
theorem dX9_ask_147 : decode cX9_ask 147 = .ok (.ireturn, 1) := by decide +kernel
set_option maxRecDepth 20000 in
theorem ggX9_bees_X9_isWithin : GoodIn wsX9_bees wsX9_isWithin := goodIn_r _ [7] (by decide +kernel) (by decide +kernel)
set_option maxRecDepth 20000 in
theorem gX9_bees_X9_isWithin : GoodIn wsX9_bees (va_wsS RX9 73 yX9_isWithin wsX9_isWithin) := goodIn_app (goodIn_of _ (by decide +kernel)) ggX9_bees_X9_isWithin
set_option maxRecDepth 20000 in
theorem ggX9_bees_X2_foremost : GoodIn wsX9_bees wsX2_foremost := goodIn_r _ [12, 13, 14, 15, 16, 11, 17, 18, 52, 53, 54, 55, 56, 57] (by decide +kernel) (by decide +kernel)
set_option maxRecDepth 20000 in
theorem gX9_bees_X2_foremost : GoodIn wsX9_bees (wsV RX9 155 RX2 yX2_foremost wsX2_foremost) := goodIn_app (goodIn_of _ (by decide +kernel)) ggX9_bees_X2_foremost
set_option maxRecDepth 20000 in
theorem ggX9_bees_X0_powerOfTen : GoodIn wsX9_bees wsX0_powerOfTen := goodIn_r _ [22, 23] (by decide +kernel) (by decide +kernel)
set_option maxRecDepth 20000 in
theorem gX9_bees_X0_powerOfTen : GoodIn wsX9_bees (va_wsS RX9 226 yX0_powerOfTen wsX0_powerOfTen) := goodIn_app (goodIn_of _ (by decide +kernel)) ggX9_bees_X0_powerOfTen
set_option maxRecDepth 20000 in
theorem ggX9_bees_X0_beesInTenths : GoodIn wsX9_bees wsX0_beesInTenths := goodIn_r _ [26, 27, 28, 29, 30, 20, 21, 22, 23, 31, 32, 33, 34, 35, 36, 37, 52, 53, 54, 55, 56, 57] (by decide +kernel) (by decide +kernel)
set_option maxRecDepth 20000 in
theorem gX9_bees_X0_beesInTenths : GoodIn wsX9_bees (va_wsS RX9 232 yX0_beesInTenths wsX0_beesInTenths) := goodIn_app (goodIn_of _ (by decide +kernel)) ggX9_bees_X0_beesInTenths
set_option maxRecDepth 20000 in
theorem ggX9_bees_X0_partInLowestTerms : GoodIn wsX9_bees wsX0_partInLowestTerms := goodIn_r _ [40, 41, 42, 21, 43] (by decide +kernel) (by decide +kernel)
set_option maxRecDepth 20000 in
theorem gX9_bees_X0_partInLowestTerms : GoodIn wsX9_bees (va_wsS RX9 236 yX0_partInLowestTerms wsX0_partInLowestTerms) := goodIn_app (goodIn_of _ (by decide +kernel)) ggX9_bees_X0_partInLowestTerms
theorem dX9_bees_0 : decode cX9_bees 0 = .ok (.iload_n 1, 1) := by decide +kernel
theorem dX9_bees_1 : decode cX9_bees 1 = .ok (.iconst 0, 1) := by decide +kernel
theorem dX9_bees_2 : decode cX9_bees 2 = .ok (.bipush 10, 2) := by decide +kernel
theorem dX9_bees_4 : decode cX9_bees 4 = .ok (.invokestatic 73, 3) := by decide +kernel
theorem dX9_bees_7 : decode cX9_bees 7 = .ok (.ifCond .eq 32, 3) := by decide +kernel
theorem dX9_bees_10 : decode cX9_bees 10 = .ok (.iload_n 2, 1) := by decide +kernel
theorem dX9_bees_11 : decode cX9_bees 11 = .ok (.iconst 0, 1) := by decide +kernel
theorem dX9_bees_12 : decode cX9_bees 12 = .ok (.bipush 10, 2) := by decide +kernel
theorem dX9_bees_14 : decode cX9_bees 14 = .ok (.invokestatic 73, 3) := by decide +kernel
theorem dX9_bees_17 : decode cX9_bees 17 = .ok (.ifCond .eq 22, 3) := by decide +kernel
theorem dX9_bees_20 : decode cX9_bees 20 = .ok (.iload_n 3, 1) := by decide +kernel
theorem dX9_bees_21 : decode cX9_bees 21 = .ok (.iconst 0, 1) := by decide +kernel
theorem dX9_bees_22 : decode cX9_bees 22 = .ok (.iconst 1, 1) := by decide +kernel
theorem dX9_bees_23 : decode cX9_bees 23 = .ok (.invokestatic 73, 3) := by decide +kernel
theorem dX9_bees_26 : decode cX9_bees 26 = .ok (.ifCond .eq 13, 3) := by decide +kernel
theorem dX9_bees_29 : decode cX9_bees 29 = .ok (.iload 4, 2) := by decide +kernel
theorem dX9_bees_31 : decode cX9_bees 31 = .ok (.iconst 0, 1) := by decide +kernel
theorem dX9_bees_32 : decode cX9_bees 32 = .ok (.iconst 1, 1) := by decide +kernel
theorem dX9_bees_33 : decode cX9_bees 33 = .ok (.invokestatic 73, 3) := by decide +kernel
theorem dX9_bees_36 : decode cX9_bees 36 = .ok (.ifCond .ne 7, 3) := by decide +kernel
theorem dX9_bees_39 : decode cX9_bees 39 = .ok (.ldc2_w 222, 3) := by decide +kernel
theorem dX9_bees_42 : decode cX9_bees 42 = .ok (.lreturn, 1) := by decide +kernel
theorem dX9_bees_43 : decode cX9_bees 43 = .ok (.aload_n 0, 1) := by decide +kernel
theorem dX9_bees_44 : decode cX9_bees 44 = .ok (.getfield 10, 3) := by decide +kernel
theorem dX9_bees_47 : decode cX9_bees 47 = .ok (.invokevirtual 155, 3) := by decide +kernel
theorem dX9_bees_50 : decode cX9_bees 50 = .ok (.istore 5, 2) := by decide +kernel
theorem dX9_bees_52 : decode cX9_bees 52 = .ok (.iload 5, 2) := by decide +kernel
theorem dX9_bees_54 : decode cX9_bees 54 = .ok (.iconst (-1), 1) := by decide +kernel
theorem dX9_bees_55 : decode cX9_bees 55 = .ok (.if_icmp .ne 7, 3) := by decide +kernel
theorem dX9_bees_58 : decode cX9_bees 58 = .ok (.ldc2_w 224, 3) := by decide +kernel
theorem dX9_bees_61 : decode cX9_bees 61 = .ok (.lreturn, 1) := by decide +kernel
theorem dX9_bees_62 : decode cX9_bees 62 = .ok (.iload_n 1, 1) := by decide +kernel
theorem dX9_bees_63 : decode cX9_bees 63 = .ok (.invokestatic 226, 3) := by decide +kernel
theorem dX9_bees_66 : decode cX9_bees 66 = .ok (.lstore 6, 2) := by decide +kernel
theorem dX9_bees_68 : decode cX9_bees 68 = .ok (.aload_n 0, 1) := by decide +kernel
theorem dX9_bees_69 : decode cX9_bees 69 = .ok (.getfield 10, 3) := by decide +kernel
theorem dX9_bees_72 : decode cX9_bees 72 = .ok (.iload 5, 2) := by decide +kernel
theorem dX9_bees_74 : decode cX9_bees 74 = .ok (.iload_n 1, 1) := by decide +kernel
theorem dX9_bees_75 : decode cX9_bees 75 = .ok (.iload_n 2, 1) := by decide +kernel
theorem dX9_bees_76 : decode cX9_bees 76 = .ok (.iload_n 3, 1) := by decide +kernel
theorem dX9_bees_77 : decode cX9_bees 77 = .ok (.iconst 1, 1) := by decide +kernel
theorem dX9_bees_78 : decode cX9_bees 78 = .ok (.if_icmp .ne 7, 3) := by decide +kernel
theorem dX9_bees_81 : decode cX9_bees 81 = .ok (.iconst 1, 1) := by decide +kernel
theorem dX9_bees_82 : decode cX9_bees 82 = .ok (.goto 4, 3) := by decide +kernel
theorem dX9_bees_85 : decode cX9_bees 85 = .ok (.iconst 0, 1) := by decide +kernel
theorem dX9_bees_86 : decode cX9_bees 86 = .ok (.invokestatic 232, 3) := by decide +kernel
theorem dX9_bees_89 : decode cX9_bees 89 = .ok (.lstore 8, 2) := by decide +kernel
theorem dX9_bees_91 : decode cX9_bees 91 = .ok (.lload 8, 2) := by decide +kernel
theorem dX9_bees_93 : decode cX9_bees 93 = .ok (.lload 6, 2) := by decide +kernel
theorem dX9_bees_95 : decode cX9_bees 95 = .ok (.iload 4, 2) := by decide +kernel
theorem dX9_bees_97 : decode cX9_bees 97 = .ok (.invokestatic 236, 3) := by decide +kernel
theorem dX9_bees_100 : decode cX9_bees 100 = .ok (.lreturn, 1) := by decide +kernel
set_option maxRecDepth 20000 in
theorem ggX9_year_X9_isWithin : GoodIn wsX9_year wsX9_isWithin := goodIn_r _ [9] (by decide +kernel) (by decide +kernel)
set_option maxRecDepth 20000 in
theorem gX9_year_X9_isWithin : GoodIn wsX9_year (va_wsS RX9 73 yX9_isWithin wsX9_isWithin) := goodIn_app (goodIn_of _ (by decide +kernel)) ggX9_year_X9_isWithin
set_option maxRecDepth 20000 in
theorem ggX9_year_X8_pass : GoodIn wsX9_year wsX8_pass := goodIn_r _ [14, 15, 16, 17, 18, 19, 20, 21, 22, 23, 24, 25, 26, 27, 28, 29, 30, 31, 32, 33, 34, 35, 36, 37, 38, 39, 40, 41, 42, 13, 43, 7, 8, 9, 44, 45, 46, 47, 48, 49, 50, 51, 52, 53, 54, 55, 56, 57, 58, 59, 60, 61, 62, 63, 64, 65, 66, 67, 68, 69, 70, 71, 72, 73, 74, 75, 76, 77, 78, 79, 80, 81, 82, 83, 84, 85, 86, 87, 88, 89, 90, 91, 92, 93, 94, 95, 96, 97, 98, 99, 100, 101, 102, 103, 104, 105, 106, 107, 108, 109, 110, 111, 131, 132, 133, 134, 135, 136, 137, 138] (by decide +kernel) (by decide +kernel)
set_option maxRecDepth 20000 in
theorem gX9_year_X8_pass : GoodIn wsX9_year (wsV RX9 240 RX8 yX8_pass wsX8_pass) := goodIn_app (goodIn_of _ (by decide +kernel)) ggX9_year_X8_pass
set_option maxRecDepth 20000 in
theorem ggX9_year_X2_sumOfCounts : GoodIn wsX9_year wsX2_sumOfCounts := goodIn_r _ [115, 27, 37, 38, 39, 21, 40, 23, 133, 134, 135, 136, 137, 138] (by decide +kernel) (by decide +kernel)
set_option maxRecDepth 20000 in
theorem gX9_year_X2_sumOfCounts : GoodIn wsX9_year (wsV RX9 245 RX2 yX2_sumOfCounts wsX2_sumOfCounts) := goodIn_app (goodIn_of _ (by decide +kernel)) ggX9_year_X2_sumOfCounts
set_option maxRecDepth 20000 in
theorem ggX9_year_J6_bitCount_0f7a4 : GoodIn wsX9_year wsJ6_bitCount_0f7a4 := goodIn_r _ [119, 120, 121, 122] (by decide +kernel) (by decide +kernel)
set_option maxRecDepth 20000 in
theorem gX9_year_J6_bitCount_0f7a4 : GoodIn wsX9_year (va_wsS RX9 84 yJ6_bitCount_0f7a4 wsJ6_bitCount_0f7a4) := goodIn_app (goodIn_of _ (by decide +kernel)) ggX9_year_J6_bitCount_0f7a4
theorem dX9_year_0 : decode cX9_year 0 = .ok (.iload_n 1, 1) := by decide +kernel
theorem dX9_year_1 : decode cX9_year 1 = .ok (.iconst 0, 1) := by decide +kernel
theorem dX9_year_2 : decode cX9_year 2 = .ok (.sipush 9999, 3) := by decide +kernel
theorem dX9_year_5 : decode cX9_year 5 = .ok (.invokestatic 73, 3) := by decide +kernel
theorem dX9_year_8 : decode cX9_year 8 = .ok (.ifCond .eq 22, 3) := by decide +kernel
theorem dX9_year_11 : decode cX9_year 11 = .ok (.iload_n 2, 1) := by decide +kernel
theorem dX9_year_12 : decode cX9_year 12 = .ok (.iconst 1, 1) := by decide +kernel
theorem dX9_year_13 : decode cX9_year 13 = .ok (.bipush 99, 2) := by decide +kernel
theorem dX9_year_15 : decode cX9_year 15 = .ok (.invokestatic 73, 3) := by decide +kernel
theorem dX9_year_18 : decode cX9_year 18 = .ok (.ifCond .eq 12, 3) := by decide +kernel
theorem dX9_year_21 : decode cX9_year 21 = .ok (.iload_n 3, 1) := by decide +kernel
theorem dX9_year_22 : decode cX9_year 22 = .ok (.iconst 0, 1) := by decide +kernel
theorem dX9_year_23 : decode cX9_year 23 = .ok (.iconst 2, 1) := by decide +kernel
theorem dX9_year_24 : decode cX9_year 24 = .ok (.invokestatic 73, 3) := by decide +kernel
theorem dX9_year_27 : decode cX9_year 27 = .ok (.ifCond .ne 6, 3) := by decide +kernel
theorem dX9_year_30 : decode cX9_year 30 = .ok (.bipush (-2), 2) := by decide +kernel
theorem dX9_year_32 : decode cX9_year 32 = .ok (.ireturn, 1) := by decide +kernel
theorem dX9_year_33 : decode cX9_year 33 = .ok (.aload_n 0, 1) := by decide +kernel
theorem dX9_year_34 : decode cX9_year 34 = .ok (.getfield 54, 3) := by decide +kernel
theorem dX9_year_37 : decode cX9_year 37 = .ok (.aload_n 0, 1) := by decide +kernel
theorem dX9_year_38 : decode cX9_year 38 = .ok (.getfield 10, 3) := by decide +kernel
theorem dX9_year_41 : decode cX9_year 41 = .ok (.iload_n 1, 1) := by decide +kernel
theorem dX9_year_42 : decode cX9_year 42 = .ok (.iload_n 2, 1) := by decide +kernel
theorem dX9_year_43 : decode cX9_year 43 = .ok (.invokevirtual 240, 3) := by decide +kernel
theorem dX9_year_46 : decode cX9_year 46 = .ok (.iload_n 3, 1) := by decide +kernel
theorem dX9_year_47 : decode cX9_year 47 = .ok (.ifCond .ne 14, 3) := by decide +kernel
theorem dX9_year_50 : decode cX9_year 50 = .ok (.aload_n 0, 1) := by decide +kernel
theorem dX9_year_51 : decode cX9_year 51 = .ok (.getfield 54, 3) := by decide +kernel
theorem dX9_year_54 : decode cX9_year 54 = .ok (.getfield 244, 3) := by decide +kernel
theorem dX9_year_57 : decode cX9_year 57 = .ok (.invokevirtual 245, 3) := by decide +kernel
theorem dX9_year_60 : decode cX9_year 60 = .ok (.ireturn, 1) := by decide +kernel
theorem dX9_year_61 : decode cX9_year 61 = .ok (.iload_n 3, 1) := by decide +kernel
theorem dX9_year_62 : decode cX9_year 62 = .ok (.iconst 1, 1) := by decide +kernel
theorem dX9_year_63 : decode cX9_year 63 = .ok (.if_icmp .ne 19, 3) := by decide +kernel
theorem dX9_year_66 : decode cX9_year 66 = .ok (.aload_n 0, 1) := by decide +kernel
theorem dX9_year_67 : decode cX9_year 67 = .ok (.getfield 54, 3) := by decide +kernel
theorem dX9_year_70 : decode cX9_year 70 = .ok (.getfield 244, 3) := by decide +kernel
theorem dX9_year_73 : decode cX9_year 73 = .ok (.getfield 165, 3) := by decide +kernel
theorem dX9_year_76 : decode cX9_year 76 = .ok (.invokestatic 84, 3) := by decide +kernel
theorem dX9_year_79 : decode cX9_year 79 = .ok (.goto 10, 3) := by decide +kernel
theorem dX9_year_82 : decode cX9_year 82 = .ok (.aload_n 0, 1) := by decide +kernel
theorem dX9_year_83 : decode cX9_year 83 = .ok (.getfield 54, 3) := by decide +kernel
theorem dX9_year_86 : decode cX9_year 86 = .ok (.getfield 248, 3) := by decide +kernel
theorem dX9_year_89 : decode cX9_year 89 = .ok (.ireturn, 1) := by decide +kernel
set_option maxRecDepth 20000 in
theorem ggX9_image_X9_isWithin : GoodIn wsX9_image wsX9_isWithin := goodIn_r _ [7] (by decide +kernel) (by decide +kernel)
set_option maxRecDepth 20000 in
theorem gX9_image_X9_isWithin : GoodIn wsX9_image (va_wsS RX9 73 yX9_isWithin wsX9_isWithin) := goodIn_app (goodIn_of _ (by decide +kernel)) ggX9_image_X9_isWithin
set_option maxRecDepth 20000 in
theorem ggX9_image_X3_keep : GoodIn wsX9_image wsX3_keep := goodIn_r _ [12, 13, 14, 15, 16, 17, 18, 19, 20, 21, 22, 23, 24, 25, 26, 27, 28, 29, 30, 31, 32, 33, 34, 35, 36, 37, 38, 39, 48, 49, 50, 51, 52, 53, 54, 55, 56, 57, 58, 59, 60] (by decide +kernel) (by decide +kernel)
set_option maxRecDepth 20000 in
theorem gX9_image_X3_keep : GoodIn wsX9_image (wsV RX9 251 RX3 yX3_keep wsX3_keep) := goodIn_app (goodIn_of _ (by decide +kernel)) ggX9_image_X3_keep
theorem dX9_image_0 : decode cX9_image 0 = .ok (.iload_n 1, 1) := by decide +kernel
theorem dX9_image_1 : decode cX9_image 1 = .ok (.iconst 0, 1) := by decide +kernel
theorem dX9_image_2 : decode cX9_image 2 = .ok (.aload_n 0, 1) := by decide +kernel
theorem dX9_image_3 : decode cX9_image 3 = .ok (.getfield 61, 3) := by decide +kernel
theorem dX9_image_6 : decode cX9_image 6 = .ok (.arraylength, 1) := by decide +kernel
theorem dX9_image_7 : decode cX9_image 7 = .ok (.iconst 1, 1) := by decide +kernel
theorem dX9_image_8 : decode cX9_image 8 = .ok (.isub, 1) := by decide +kernel
theorem dX9_image_9 : decode cX9_image 9 = .ok (.invokestatic 73, 3) := by decide +kernel
theorem dX9_image_12 : decode cX9_image 12 = .ok (.ifCond .ne 6, 3) := by decide +kernel
theorem dX9_image_15 : decode cX9_image 15 = .ok (.bipush (-2), 2) := by decide +kernel
theorem dX9_image_17 : decode cX9_image 17 = .ok (.ireturn, 1) := by decide +kernel
theorem dX9_image_18 : decode cX9_image 18 = .ok (.aload_n 0, 1) := by decide +kernel
theorem dX9_image_19 : decode cX9_image 19 = .ok (.getfield 61, 3) := by decide +kernel
theorem dX9_image_22 : decode cX9_image 22 = .ok (.iload_n 1, 1) := by decide +kernel
theorem dX9_image_23 : decode cX9_image 23 = .ok (.aaload, 1) := by decide +kernel
theorem dX9_image_24 : decode cX9_image 24 = .ok (.aload_n 0, 1) := by decide +kernel
theorem dX9_image_25 : decode cX9_image 25 = .ok (.getfield 10, 3) := by decide +kernel
theorem dX9_image_28 : decode cX9_image 28 = .ok (.aload_n 0, 1) := by decide +kernel
theorem dX9_image_29 : decode cX9_image 29 = .ok (.getfield 40, 3) := by decide +kernel
theorem dX9_image_32 : decode cX9_image 32 = .ok (.invokevirtual 251, 3) := by decide +kernel
theorem dX9_image_35 : decode cX9_image 35 = .ok (.iconst 1, 1) := by decide +kernel
theorem dX9_image_36 : decode cX9_image 36 = .ok (.ireturn, 1) := by decide +kernel
set_option maxRecDepth 20000 in
theorem ggX9_restore_X9_isWithin : GoodIn wsX9_restore wsX9_isWithin := goodIn_r _ [8] (by decide +kernel) (by decide +kernel)
set_option maxRecDepth 20000 in
theorem gX9_restore_X9_isWithin : GoodIn wsX9_restore (va_wsS RX9 73 yX9_isWithin wsX9_isWithin) := goodIn_app (goodIn_of _ (by decide +kernel)) ggX9_restore_X9_isWithin
set_option maxRecDepth 20000 in
theorem ggX9_restore_X3_giveBack : GoodIn wsX9_restore wsX3_giveBack := goodIn_r _ [13, 14, 15, 16, 17, 18, 19, 20, 21, 22, 23, 24, 25, 26, 27, 28, 29, 30, 31, 32, 33, 34, 35, 36, 37, 38, 39, 48, 49, 50, 51, 52, 53, 54, 55, 56, 57, 58, 59, 60] (by decide +kernel) (by decide +kernel)
set_option maxRecDepth 20000 in
theorem gX9_restore_X3_giveBack : GoodIn wsX9_restore (wsV RX9 258 RX3 yX3_giveBack wsX3_giveBack) := goodIn_app (goodIn_of _ (by decide +kernel)) ggX9_restore_X3_giveBack
theorem dX9_restore_0 : decode cX9_restore 0 = .ok (.iload_n 1, 1) := by decide +kernel
theorem dX9_restore_1 : decode cX9_restore 1 = .ok (.iconst 0, 1) := by decide +kernel
theorem dX9_restore_2 : decode cX9_restore 2 = .ok (.aload_n 0, 1) := by decide +kernel
theorem dX9_restore_3 : decode cX9_restore 3 = .ok (.getfield 61, 3) := by decide +kernel
theorem dX9_restore_6 : decode cX9_restore 6 = .ok (.arraylength, 1) := by decide +kernel
theorem dX9_restore_7 : decode cX9_restore 7 = .ok (.iconst 1, 1) := by decide +kernel
theorem dX9_restore_8 : decode cX9_restore 8 = .ok (.isub, 1) := by decide +kernel
theorem dX9_restore_9 : decode cX9_restore 9 = .ok (.invokestatic 73, 3) := by decide +kernel
theorem dX9_restore_12 : decode cX9_restore 12 = .ok (.ifCond .ne 6, 3) := by decide +kernel
theorem dX9_restore_15 : decode cX9_restore 15 = .ok (.bipush (-2), 2) := by decide +kernel
theorem dX9_restore_17 : decode cX9_restore 17 = .ok (.ireturn, 1) := by decide +kernel
theorem dX9_restore_18 : decode cX9_restore 18 = .ok (.aload_n 0, 1) := by decide +kernel
theorem dX9_restore_19 : decode cX9_restore 19 = .ok (.getfield 61, 3) := by decide +kernel
theorem dX9_restore_22 : decode cX9_restore 22 = .ok (.iload_n 1, 1) := by decide +kernel
theorem dX9_restore_23 : decode cX9_restore 23 = .ok (.aaload, 1) := by decide +kernel
theorem dX9_restore_24 : decode cX9_restore 24 = .ok (.getfield 255, 3) := by decide +kernel
theorem dX9_restore_27 : decode cX9_restore 27 = .ok (.ifCond .ne 6, 3) := by decide +kernel
theorem dX9_restore_30 : decode cX9_restore 30 = .ok (.bipush (-3), 2) := by decide +kernel
theorem dX9_restore_32 : decode cX9_restore 32 = .ok (.ireturn, 1) := by decide +kernel
theorem dX9_restore_33 : decode cX9_restore 33 = .ok (.aload_n 0, 1) := by decide +kernel
theorem dX9_restore_34 : decode cX9_restore 34 = .ok (.getfield 61, 3) := by decide +kernel
theorem dX9_restore_37 : decode cX9_restore 37 = .ok (.iload_n 1, 1) := by decide +kernel
theorem dX9_restore_38 : decode cX9_restore 38 = .ok (.aaload, 1) := by decide +kernel
theorem dX9_restore_39 : decode cX9_restore 39 = .ok (.aload_n 0, 1) := by decide +kernel
theorem dX9_restore_40 : decode cX9_restore 40 = .ok (.getfield 10, 3) := by decide +kernel
theorem dX9_restore_43 : decode cX9_restore 43 = .ok (.aload_n 0, 1) := by decide +kernel
theorem dX9_restore_44 : decode cX9_restore 44 = .ok (.getfield 40, 3) := by decide +kernel
theorem dX9_restore_47 : decode cX9_restore 47 = .ok (.invokevirtual 258, 3) := by decide +kernel
theorem dX9_restore_50 : decode cX9_restore 50 = .ok (.iconst 1, 1) := by decide +kernel
theorem dX9_restore_51 : decode cX9_restore 51 = .ok (.ireturn, 1) := by decide +kernel
set_option maxRecDepth 20000 in
theorem ggX9_told_X2_isThere : GoodIn wsX9_told wsX2_isThere := goodIn_r _ [15, 16, 30, 31, 32, 33, 34, 35] (by decide +kernel) (by decide +kernel)
set_option maxRecDepth 20000 in
theorem gX9_told_X2_isThere : GoodIn wsX9_told (wsV RX9 90 RX2 yX2_isThere wsX2_isThere) := goodIn_app (goodIn_of _ (by decide +kernel)) ggX9_told_X2_isThere
theorem dX9_told_0 : decode cX9_told 0 = .ok (.iload_n 1, 1) := by decide +kernel
theorem dX9_told_1 : decode cX9_told 1 = .ok (.tableswitch 87 0 5 #[39, 47, 55, 63, 71, 79], 39) := by decide +kernel
theorem dX9_told_40 : decode cX9_told 40 = .ok (.aload_n 0, 1) := by decide +kernel
theorem dX9_told_41 : decode cX9_told 41 = .ok (.getfield 19, 3) := by decide +kernel
theorem dX9_told_44 : decode cX9_told 44 = .ok (.getfield 113, 3) := by decide +kernel
theorem dX9_told_47 : decode cX9_told 47 = .ok (.ireturn, 1) := by decide +kernel
theorem dX9_told_48 : decode cX9_told 48 = .ok (.aload_n 0, 1) := by decide +kernel
theorem dX9_told_49 : decode cX9_told 49 = .ok (.getfield 10, 3) := by decide +kernel
theorem dX9_told_52 : decode cX9_told 52 = .ok (.getfield 81, 3) := by decide +kernel
theorem dX9_told_55 : decode cX9_told 55 = .ok (.ireturn, 1) := by decide +kernel
theorem dX9_told_56 : decode cX9_told 56 = .ok (.aload_n 0, 1) := by decide +kernel
theorem dX9_told_57 : decode cX9_told 57 = .ok (.getfield 10, 3) := by decide +kernel
theorem dX9_told_60 : decode cX9_told 60 = .ok (.getfield 165, 3) := by decide +kernel
theorem dX9_told_63 : decode cX9_told 63 = .ok (.ireturn, 1) := by decide +kernel
theorem dX9_told_64 : decode cX9_told 64 = .ok (.aload_n 0, 1) := by decide +kernel
theorem dX9_told_65 : decode cX9_told 65 = .ok (.getfield 10, 3) := by decide +kernel
theorem dX9_told_68 : decode cX9_told 68 = .ok (.getfield 69, 3) := by decide +kernel
theorem dX9_told_71 : decode cX9_told 71 = .ok (.ireturn, 1) := by decide +kernel
theorem dX9_told_72 : decode cX9_told 72 = .ok (.aload_n 0, 1) := by decide +kernel
theorem dX9_told_73 : decode cX9_told 73 = .ok (.getfield 10, 3) := by decide +kernel
theorem dX9_told_76 : decode cX9_told 76 = .ok (.getfield 107, 3) := by decide +kernel
theorem dX9_told_79 : decode cX9_told 79 = .ok (.ireturn, 1) := by decide +kernel
theorem dX9_told_80 : decode cX9_told 80 = .ok (.aload_n 0, 1) := by decide +kernel
theorem dX9_told_81 : decode cX9_told 81 = .ok (.getfield 40, 3) := by decide +kernel
theorem dX9_told_84 : decode cX9_told 84 = .ok (.getfield 206, 3) := by decide +kernel
theorem dX9_told_87 : decode cX9_told 87 = .ok (.ireturn, 1) := by decide +kernel
theorem dX9_told_88 : decode cX9_told 88 = .ok (.aload_n 0, 1) := by decide +kernel
theorem dX9_told_89 : decode cX9_told 89 = .ok (.getfield 10, 3) := by decide +kernel
theorem dX9_told_92 : decode cX9_told 92 = .ok (.iload_n 1, 1) := by decide +kernel
theorem dX9_told_93 : decode cX9_told 93 = .ok (.bipush 10, 2) := by decide +kernel
theorem dX9_told_95 : decode cX9_told 95 = .ok (.isub, 1) := by decide +kernel
theorem dX9_told_96 : decode cX9_told 96 = .ok (.invokevirtual 90, 3) := by decide +kernel
theorem dX9_told_99 : decode cX9_told 99 = .ok (.ifCond .eq 18, 3) := by decide +kernel
theorem dX9_told_102 : decode cX9_told 102 = .ok (.aload_n 0, 1) := by decide +kernel
theorem dX9_told_103 : decode cX9_told 103 = .ok (.getfield 10, 3) := by decide +kernel
theorem dX9_told_106 : decode cX9_told 106 = .ok (.getfield 261, 3) := by decide +kernel
theorem dX9_told_109 : decode cX9_told 109 = .ok (.iload_n 1, 1) := by decide +kernel
theorem dX9_told_110 : decode cX9_told 110 = .ok (.bipush 10, 2) := by decide +kernel
theorem dX9_told_112 : decode cX9_told 112 = .ok (.isub, 1) := by decide +kernel
theorem dX9_told_113 : decode cX9_told 113 = .ok (.iaload, 1) := by decide +kernel
theorem dX9_told_114 : decode cX9_told 114 = .ok (.goto 5, 3) := by decide +kernel
theorem dX9_told_117 : decode cX9_told 117 = .ok (.bipush (-2), 2) := by decide +kernel
theorem dX9_told_119 : decode cX9_told 119 = .ok (.ireturn, 1) := by decide +kernel
theorem dX9_isWithin_0 : decode cX9_isWithin 0 = .ok (.iload_n 0, 1) := by decide +kernel
theorem dX9_isWithin_1 : decode cX9_isWithin 1 = .ok (.iload_n 1, 1) := by decide +kernel
theorem dX9_isWithin_2 : decode cX9_isWithin 2 = .ok (.if_icmp .lt 12, 3) := by decide +kernel
theorem dX9_isWithin_5 : decode cX9_isWithin 5 = .ok (.iload_n 0, 1) := by decide +kernel
theorem dX9_isWithin_6 : decode cX9_isWithin 6 = .ok (.iload_n 2, 1) := by decide +kernel
theorem dX9_isWithin_7 : decode cX9_isWithin 7 = .ok (.if_icmp .gt 7, 3) := by decide +kernel
theorem dX9_isWithin_10 : decode cX9_isWithin 10 = .ok (.iconst 1, 1) := by decide +kernel
theorem dX9_isWithin_11 : decode cX9_isWithin 11 = .ok (.goto 4, 3) := by decide +kernel
theorem dX9_isWithin_14 : decode cX9_isWithin 14 = .ok (.iconst 0, 1) := by decide +kernel
theorem dX9_isWithin_15 : decode cX9_isWithin 15 = .ok (.ireturn, 1) := by decide +kernel
theorem dX9_isMonk_0 : decode cX9_isMonk 0 = .ok (.iload_n 0, 1) := by decide +kernel
theorem dX9_isMonk_1 : decode cX9_isMonk 1 = .ok (.ifCond .lt 13, 3) := by decide +kernel
theorem dX9_isMonk_4 : decode cX9_isMonk 4 = .ok (.iload_n 0, 1) := by decide +kernel
theorem dX9_isMonk_5 : decode cX9_isMonk 5 = .ok (.bipush 8, 2) := by decide +kernel
theorem dX9_isMonk_7 : decode cX9_isMonk 7 = .ok (.if_icmp .ge 7, 3) := by decide +kernel
theorem dX9_isMonk_10 : decode cX9_isMonk 10 = .ok (.iconst 1, 1) := by decide +kernel
theorem dX9_isMonk_11 : decode cX9_isMonk 11 = .ok (.goto 4, 3) := by decide +kernel
theorem dX9_isMonk_14 : decode cX9_isMonk 14 = .ok (.iconst 0, 1) := by decide +kernel
theorem dX9_isMonk_15 : decode cX9_isMonk 15 = .ok (.ireturn, 1) := by decide +kernel
set_option maxRecDepth 20000 in
theorem ggX9_isLaw_X9_isWithin : GoodIn wsX9_isLaw wsX9_isWithin := goodIn_r _ [4] (by decide +kernel) (by decide +kernel)
set_option maxRecDepth 20000 in
theorem gX9_isLaw_X9_isWithin : GoodIn wsX9_isLaw (va_wsS RX9 73 yX9_isWithin wsX9_isWithin) := goodIn_app (goodIn_of _ (by decide +kernel)) ggX9_isLaw_X9_isWithin
theorem dX9_isLaw_0 : decode cX9_isLaw 0 = .ok (.iload_n 0, 1) := by decide +kernel
theorem dX9_isLaw_1 : decode cX9_isLaw 1 = .ok (.iconst 0, 1) := by decide +kernel
theorem dX9_isLaw_2 : decode cX9_isLaw 2 = .ok (.iconst 4, 1) := by decide +kernel
theorem dX9_isLaw_3 : decode cX9_isLaw 3 = .ok (.invokestatic 73, 3) := by decide +kernel
theorem dX9_isLaw_6 : decode cX9_isLaw 6 = .ok (.ireturn, 1) := by decide +kernel
theorem dX10_init_0 : decode cX10_init 0 = .ok (.aload_n 0, 1) := by decide +kernel
theorem dX10_init_1 : decode cX10_init 1 = .ok (.invokespecial 1, 3) := by decide +kernel
theorem dX10_init_4 : decode cX10_init 4 = .ok (.aload_n 0, 1) := by decide +kernel
theorem dX10_init_5 : decode cX10_init 5 = .ok (.bipush 8, 2) := by decide +kernel
theorem dX10_init_7 : decode cX10_init 7 = .ok (.newarray .int, 2) := by decide +kernel
theorem dX10_init_9 : decode cX10_init 9 = .ok (.putfield 7, 3) := by decide +kernel
theorem dX10_init_12 : decode cX10_init 12 = .ok (.aload_n 0, 1) := by decide +kernel
theorem dX10_init_13 : decode cX10_init 13 = .ok (.bipush 8, 2) := by decide +kernel
theorem dX10_init_15 : decode cX10_init 15 = .ok (.newarray .int, 2) := by decide +kernel
theorem dX10_init_17 : decode cX10_init 17 = .ok (.putfield 13, 3) := by decide +kernel
theorem dX10_init_20 : decode cX10_init 20 = .ok (.aload_n 0, 1) := by decide +kernel
theorem dX10_init_21 : decode cX10_init 21 = .ok (.ldc 16, 2) := by decide +kernel
theorem dX10_init_23 : decode cX10_init 23 = .ok (.putfield 17, 3) := by decide +kernel
theorem dX10_init_26 : decode cX10_init 26 = .ok (.aload_n 0, 1) := by decide +kernel
theorem dX10_init_27 : decode cX10_init 27 = .ok (.bipush 9, 2) := by decide +kernel
theorem dX10_init_29 : decode cX10_init 29 = .ok (.putfield 21, 3) := by decide +kernel
theorem dX10_init_32 : decode cX10_init 32 = .ok (.aload_n 0, 1) := by decide +kernel
theorem dX10_init_33 : decode cX10_init 33 = .ok (.bipush 24, 2) := by decide +kernel
theorem dX10_init_35 : decode cX10_init 35 = .ok (.newarray .int, 2) := by decide +kernel
theorem dX10_init_37 : decode cX10_init 37 = .ok (.putfield 24, 3) := by decide +kernel
theorem dX10_init_40 : decode cX10_init 40 = .ok (.aload_n 0, 1) := by decide +kernel
theorem dX10_init_41 : decode cX10_init 41 = .ok (.bipush 60, 2) := by decide +kernel
theorem dX10_init_43 : decode cX10_init 43 = .ok (.newarray .int, 2) := by decide +kernel
theorem dX10_init_45 : decode cX10_init 45 = .ok (.putfield 27, 3) := by decide +kernel
theorem dX10_init_48 : decode cX10_init 48 = .ok (.aload_n 0, 1) := by decide +kernel
theorem dX10_init_49 : decode cX10_init 49 = .ok (.bipush 8, 2) := by decide +kernel
theorem dX10_init_51 : decode cX10_init 51 = .ok (.newarray .int, 2) := by decide +kernel
theorem dX10_init_53 : decode cX10_init 53 = .ok (.putfield 30, 3) := by decide +kernel
theorem dX10_init_56 : decode cX10_init 56 = .ok (.aload_n 0, 1) := by decide +kernel
theorem dX10_init_57 : decode cX10_init 57 = .ok (.bipush 120, 2) := by decide +kernel
theorem dX10_init_59 : decode cX10_init 59 = .ok (.newarray .int, 2) := by decide +kernel
theorem dX10_init_61 : decode cX10_init 61 = .ok (.putfield 33, 3) := by decide +kernel
theorem dX10_init_64 : decode cX10_init 64 = .ok (.aload_n 0, 1) := by decide +kernel
theorem dX10_init_65 : decode cX10_init 65 = .ok (.iconst 2, 1) := by decide +kernel
theorem dX10_init_66 : decode cX10_init 66 = .ok (.newarray .boolean, 2) := by decide +kernel
theorem dX10_init_68 : decode cX10_init 68 = .ok (.putfield 36, 3) := by decide +kernel
theorem dX10_init_71 : decode cX10_init 71 = .ok (.aload_n 0, 1) := by decide +kernel
theorem dX10_init_72 : decode cX10_init 72 = .ok (.iconst 0, 1) := by decide +kernel
theorem dX10_init_73 : decode cX10_init 73 = .ok (.putfield 40, 3) := by decide +kernel
theorem dX10_init_76 : decode cX10_init 76 = .ok (.return_, 1) := by decide +kernel
theorem dX10_in_0 : decode cX10_in 0 = .ok (.iload_n 0, 1) := by decide +kernel
theorem dX10_in_1 : decode cX10_in 1 = .ok (.iload_n 1, 1) := by decide +kernel
theorem dX10_in_2 : decode cX10_in 2 = .ok (.if_icmp .lt 12, 3) := by decide +kernel
theorem dX10_in_5 : decode cX10_in 5 = .ok (.iload_n 0, 1) := by decide +kernel
theorem dX10_in_6 : decode cX10_in 6 = .ok (.iload_n 2, 1) := by decide +kernel
theorem dX10_in_7 : decode cX10_in 7 = .ok (.if_icmp .gt 7, 3) := by decide +kernel
theorem dX10_in_10 : decode cX10_in 10 = .ok (.iconst 1, 1) := by decide +kernel
theorem dX10_in_11 : decode cX10_in 11 = .ok (.goto 4, 3) := by decide +kernel
theorem dX10_in_14 : decode cX10_in 14 = .ok (.iconst 0, 1) := by decide +kernel
theorem dX10_in_15 : decode cX10_in 15 = .ok (.ireturn, 1) := by decide +kernel
theorem dX10_has_0 : decode cX10_has 0 = .ok (.iload_n 0, 1) := by decide +kernel
theorem dX10_has_1 : decode cX10_has 1 = .ok (.iload_n 1, 1) := by decide +kernel
theorem dX10_has_2 : decode cX10_has 2 = .ok (.ishr, 1) := by decide +kernel
theorem dX10_has_3 : decode cX10_has 3 = .ok (.iconst 1, 1) := by decide +kernel
theorem dX10_has_4 : decode cX10_has 4 = .ok (.iand, 1) := by decide +kernel
theorem dX10_has_5 : decode cX10_has 5 = .ok (.iconst 1, 1) := by decide +kernel
theorem dX10_has_6 : decode cX10_has 6 = .ok (.if_icmp .ne 7, 3) := by decide +kernel
theorem dX10_has_9 : decode cX10_has 9 = .ok (.iconst 1, 1) := by decide +kernel
theorem dX10_has_10 : decode cX10_has 10 = .ok (.goto 4, 3) := by decide +kernel
theorem dX10_has_13 : decode cX10_has 13 = .ok (.iconst 0, 1) := by decide +kernel
theorem dX10_has_14 : decode cX10_has 14 = .ok (.ireturn, 1) := by decide +kernel
theorem dX10_bits_0 : decode cX10_bits 0 = .ok (.iconst 0, 1) := by decide +kernel
theorem dX10_bits_1 : decode cX10_bits 1 = .ok (.istore_n 1, 1) := by decide +kernel
theorem dX10_bits_2 : decode cX10_bits 2 = .ok (.iconst 0, 1) := by decide +kernel
theorem dX10_bits_3 : decode cX10_bits 3 = .ok (.istore_n 2, 1) := by decide +kernel
theorem dX10_bits_4 : decode cX10_bits 4 = .ok (.iload_n 2, 1) := by decide +kernel
theorem dX10_bits_5 : decode cX10_bits 5 = .ok (.bipush 8, 2) := by decide +kernel
theorem dX10_bits_7 : decode cX10_bits 7 = .ok (.if_icmp .ge 17, 3) := by decide +kernel
theorem dX10_bits_10 : decode cX10_bits 10 = .ok (.iload_n 1, 1) := by decide +kernel
theorem dX10_bits_11 : decode cX10_bits 11 = .ok (.iload_n 0, 1) := by decide +kernel
theorem dX10_bits_12 : decode cX10_bits 12 = .ok (.iload_n 2, 1) := by decide +kernel
theorem dX10_bits_13 : decode cX10_bits 13 = .ok (.ishr, 1) := by decide +kernel
theorem dX10_bits_14 : decode cX10_bits 14 = .ok (.iconst 1, 1) := by decide +kernel
theorem dX10_bits_15 : decode cX10_bits 15 = .ok (.iand, 1) := by decide +kernel
theorem dX10_bits_16 : decode cX10_bits 16 = .ok (.iadd, 1) := by decide +kernel
theorem dX10_bits_17 : decode cX10_bits 17 = .ok (.istore_n 1, 1) := by decide +kernel
theorem dX10_bits_18 : decode cX10_bits 18 = .ok (.iinc 2 1, 3) := by decide +kernel
theorem dX10_bits_21 : decode cX10_bits 21 = .ok (.goto (-17), 3) := by decide +kernel
theorem dX10_bits_24 : decode cX10_bits 24 = .ok (.iload_n 1, 1) := by decide +kernel
theorem dX10_bits_25 : decode cX10_bits 25 = .ok (.ireturn, 1) := by decide +kernel
set_option maxRecDepth 20000 in
theorem ggX10_isThere_X10_in : GoodIn wsX10_isThere wsX10_in := goodIn_r _ [5] (by decide +kernel) (by decide +kernel)
set_option maxRecDepth 20000 in
theorem gX10_isThere_X10_in : GoodIn wsX10_isThere (va_wsS RX10 43 yX10_in wsX10_in) := goodIn_app (goodIn_of _ (by decide +kernel)) ggX10_isThere_X10_in
set_option maxRecDepth 20000 in
theorem ggX10_isThere_X10_has : GoodIn wsX10_isThere wsX10_has := goodIn_r _ [8] (by decide +kernel) (by decide +kernel)
set_option maxRecDepth 20000 in
theorem gX10_isThere_X10_has : GoodIn wsX10_isThere (va_wsS RX10 47 yX10_has wsX10_has) := goodIn_app (goodIn_of _ (by decide +kernel)) ggX10_isThere_X10_has
theorem dX10_isThere_0 : decode cX10_isThere 0 = .ok (.iload_n 1, 1) := by decide +kernel
theorem dX10_isThere_1 : decode cX10_isThere 1 = .ok (.iconst 0, 1) := by decide +kernel
theorem dX10_isThere_2 : decode cX10_isThere 2 = .ok (.bipush 7, 2) := by decide +kernel
theorem dX10_isThere_4 : decode cX10_isThere 4 = .ok (.invokestatic 43, 3) := by decide +kernel
theorem dX10_isThere_7 : decode cX10_isThere 7 = .ok (.ifCond .eq 18, 3) := by decide +kernel
theorem dX10_isThere_10 : decode cX10_isThere 10 = .ok (.aload_n 0, 1) := by decide +kernel
theorem dX10_isThere_11 : decode cX10_isThere 11 = .ok (.getfield 40, 3) := by decide +kernel
theorem dX10_isThere_14 : decode cX10_isThere 14 = .ok (.iload_n 1, 1) := by decide +kernel
theorem dX10_isThere_15 : decode cX10_isThere 15 = .ok (.invokestatic 47, 3) := by decide +kernel
theorem dX10_isThere_18 : decode cX10_isThere 18 = .ok (.ifCond .eq 7, 3) := by decide +kernel
theorem dX10_isThere_21 : decode cX10_isThere 21 = .ok (.iconst 1, 1) := by decide +kernel
theorem dX10_isThere_22 : decode cX10_isThere 22 = .ok (.goto 4, 3) := by decide +kernel
theorem dX10_isThere_25 : decode cX10_isThere 25 = .ok (.iconst 0, 1) := by decide +kernel
theorem dX10_isThere_26 : decode cX10_isThere 26 = .ok (.ireturn, 1) := by decide +kernel
set_option maxRecDepth 20000 in
theorem ggX10_isAwake_X10_isThere : GoodIn wsX10_isAwake wsX10_isThere := goodIn_r _ [6, 7, 8, 9, 5, 10, 11, 12, 13, 14, 15, 16, 17, 18, 19, 20, 21, 22, 23, 24, 25, 26, 27, 28, 29, 30, 31, 32] (by decide +kernel) (by decide +kernel)
set_option maxRecDepth 20000 in
theorem gX10_isAwake_X10_isThere : GoodIn wsX10_isAwake (wsV RX10 51 RX10 yX10_isThere wsX10_isThere) := goodIn_app (goodIn_of _ (by decide +kernel)) ggX10_isAwake_X10_isThere
set_option maxRecDepth 20000 in
theorem ggX10_isAwake_X10_has : GoodIn wsX10_isAwake wsX10_has := goodIn_r _ [13] (by decide +kernel) (by decide +kernel)
set_option maxRecDepth 20000 in
theorem gX10_isAwake_X10_has : GoodIn wsX10_isAwake (va_wsS RX10 47 yX10_has wsX10_has) := goodIn_app (goodIn_of _ (by decide +kernel)) ggX10_isAwake_X10_has
theorem dX10_isAwake_0 : decode cX10_isAwake 0 = .ok (.aload_n 0, 1) := by decide +kernel
theorem dX10_isAwake_1 : decode cX10_isAwake 1 = .ok (.iload_n 1, 1) := by decide +kernel
theorem dX10_isAwake_2 : decode cX10_isAwake 2 = .ok (.invokevirtual 51, 3) := by decide +kernel
theorem dX10_isAwake_5 : decode cX10_isAwake 5 = .ok (.ifCond .eq 18, 3) := by decide +kernel
theorem dX10_isAwake_8 : decode cX10_isAwake 8 = .ok (.aload_n 0, 1) := by decide +kernel
theorem dX10_isAwake_9 : decode cX10_isAwake 9 = .ok (.getfield 55, 3) := by decide +kernel
theorem dX10_isAwake_12 : decode cX10_isAwake 12 = .ok (.iload_n 1, 1) := by decide +kernel
theorem dX10_isAwake_13 : decode cX10_isAwake 13 = .ok (.invokestatic 47, 3) := by decide +kernel
theorem dX10_isAwake_16 : decode cX10_isAwake 16 = .ok (.ifCond .eq 7, 3) := by decide +kernel
theorem dX10_isAwake_19 : decode cX10_isAwake 19 = .ok (.iconst 1, 1) := by decide +kernel
theorem dX10_isAwake_20 : decode cX10_isAwake 20 = .ok (.goto 4, 3) := by decide +kernel
theorem dX10_isAwake_23 : decode cX10_isAwake 23 = .ok (.iconst 0, 1) := by decide +kernel
theorem dX10_isAwake_24 : decode cX10_isAwake 24 = .ok (.ireturn, 1) := by decide +kernel
set_option maxRecDepth 20000 in
theorem ggX10_monk_X10_in : GoodIn wsX10_monk wsX10_in := goodIn_r _ [9] (by decide +kernel) (by decide +kernel)
set_option maxRecDepth 20000 in
theorem gX10_monk_X10_in : GoodIn wsX10_monk (va_wsS RX10 43 yX10_in wsX10_in) := goodIn_app (goodIn_of _ (by decide +kernel)) ggX10_monk_X10_in
set_option maxRecDepth 20000 in
theorem ggX10_monk_X10_bits : GoodIn wsX10_monk wsX10_bits := goodIn_r _ [12] (by decide +kernel) (by decide +kernel)
set_option maxRecDepth 20000 in
theorem gX10_monk_X10_bits : GoodIn wsX10_monk (va_wsS RX10 58 yX10_bits wsX10_bits) := goodIn_app (goodIn_of _ (by decide +kernel)) ggX10_monk_X10_bits
theorem dX10_monk_0 : decode cX10_monk 0 = .ok (.iload_n 1, 1) := by decide +kernel
theorem dX10_monk_1 : decode cX10_monk 1 = .ok (.iconst 0, 1) := by decide +kernel
theorem dX10_monk_2 : decode cX10_monk 2 = .ok (.bipush 7, 2) := by decide +kernel
theorem dX10_monk_4 : decode cX10_monk 4 = .ok (.invokestatic 43, 3) := by decide +kernel
theorem dX10_monk_7 : decode cX10_monk 7 = .ok (.ifCond .ne 5, 3) := by decide +kernel
theorem dX10_monk_10 : decode cX10_monk 10 = .ok (.iconst (-1), 1) := by decide +kernel
theorem dX10_monk_11 : decode cX10_monk 11 = .ok (.ireturn, 1) := by decide +kernel
theorem dX10_monk_12 : decode cX10_monk 12 = .ok (.iload_n 2, 1) := by decide +kernel
theorem dX10_monk_13 : decode cX10_monk 13 = .ok (.iconst 0, 1) := by decide +kernel
theorem dX10_monk_14 : decode cX10_monk 14 = .ok (.aload_n 0, 1) := by decide +kernel
theorem dX10_monk_15 : decode cX10_monk 15 = .ok (.getfield 17, 3) := by decide +kernel
theorem dX10_monk_18 : decode cX10_monk 18 = .ok (.invokestatic 43, 3) := by decide +kernel
theorem dX10_monk_21 : decode cX10_monk 21 = .ok (.ifCond .eq 13, 3) := by decide +kernel
theorem dX10_monk_24 : decode cX10_monk 24 = .ok (.iload_n 3, 1) := by decide +kernel
theorem dX10_monk_25 : decode cX10_monk 25 = .ok (.iconst 1, 1) := by decide +kernel
theorem dX10_monk_26 : decode cX10_monk 26 = .ok (.bipush 9, 2) := by decide +kernel
theorem dX10_monk_28 : decode cX10_monk 28 = .ok (.invokestatic 43, 3) := by decide +kernel
theorem dX10_monk_31 : decode cX10_monk 31 = .ok (.ifCond .ne 6, 3) := by decide +kernel
theorem dX10_monk_34 : decode cX10_monk 34 = .ok (.bipush (-2), 2) := by decide +kernel
theorem dX10_monk_36 : decode cX10_monk 36 = .ok (.ireturn, 1) := by decide +kernel
theorem dX10_monk_37 : decode cX10_monk 37 = .ok (.aload_n 0, 1) := by decide +kernel
theorem dX10_monk_38 : decode cX10_monk 38 = .ok (.dup, 1) := by decide +kernel
theorem dX10_monk_39 : decode cX10_monk 39 = .ok (.getfield 40, 3) := by decide +kernel
theorem dX10_monk_42 : decode cX10_monk 42 = .ok (.iconst 1, 1) := by decide +kernel
theorem dX10_monk_43 : decode cX10_monk 43 = .ok (.iload_n 1, 1) := by decide +kernel
theorem dX10_monk_44 : decode cX10_monk 44 = .ok (.ishl, 1) := by decide +kernel
theorem dX10_monk_45 : decode cX10_monk 45 = .ok (.ior, 1) := by decide +kernel
theorem dX10_monk_46 : decode cX10_monk 46 = .ok (.putfield 40, 3) := by decide +kernel
theorem dX10_monk_49 : decode cX10_monk 49 = .ok (.aload_n 0, 1) := by decide +kernel
theorem dX10_monk_50 : decode cX10_monk 50 = .ok (.dup, 1) := by decide +kernel
theorem dX10_monk_51 : decode cX10_monk 51 = .ok (.getfield 55, 3) := by decide +kernel
theorem dX10_monk_54 : decode cX10_monk 54 = .ok (.iconst 1, 1) := by decide +kernel
theorem dX10_monk_55 : decode cX10_monk 55 = .ok (.iload_n 1, 1) := by decide +kernel
theorem dX10_monk_56 : decode cX10_monk 56 = .ok (.ishl, 1) := by decide +kernel
theorem dX10_monk_57 : decode cX10_monk 57 = .ok (.ior, 1) := by decide +kernel
theorem dX10_monk_58 : decode cX10_monk 58 = .ok (.putfield 55, 3) := by decide +kernel
theorem dX10_monk_61 : decode cX10_monk 61 = .ok (.aload_n 0, 1) := by decide +kernel
theorem dX10_monk_62 : decode cX10_monk 62 = .ok (.getfield 7, 3) := by decide +kernel
theorem dX10_monk_65 : decode cX10_monk 65 = .ok (.iload_n 1, 1) := by decide +kernel
theorem dX10_monk_66 : decode cX10_monk 66 = .ok (.iload_n 2, 1) := by decide +kernel
theorem dX10_monk_67 : decode cX10_monk 67 = .ok (.iastore, 1) := by decide +kernel
theorem dX10_monk_68 : decode cX10_monk 68 = .ok (.aload_n 0, 1) := by decide +kernel
theorem dX10_monk_69 : decode cX10_monk 69 = .ok (.getfield 13, 3) := by decide +kernel
theorem dX10_monk_72 : decode cX10_monk 72 = .ok (.iload_n 1, 1) := by decide +kernel
theorem dX10_monk_73 : decode cX10_monk 73 = .ok (.iload_n 3, 1) := by decide +kernel
theorem dX10_monk_74 : decode cX10_monk 74 = .ok (.iastore, 1) := by decide +kernel
theorem dX10_monk_75 : decode cX10_monk 75 = .ok (.aload_n 0, 1) := by decide +kernel
theorem dX10_monk_76 : decode cX10_monk 76 = .ok (.getfield 40, 3) := by decide +kernel
theorem dX10_monk_79 : decode cX10_monk 79 = .ok (.invokestatic 58, 3) := by decide +kernel
theorem dX10_monk_82 : decode cX10_monk 82 = .ok (.ireturn, 1) := by decide +kernel
set_option maxRecDepth 20000 in
theorem ggX10_leave_X10_isThere : GoodIn wsX10_leave wsX10_isThere := goodIn_r _ [7, 1, 8, 9, 6, 10, 11, 12, 13, 17, 18, 19, 20, 21, 22, 23, 24, 25, 26, 27, 28, 29, 30, 31, 32, 33, 34, 35] (by decide +kernel) (by decide +kernel)
set_option maxRecDepth 20000 in
theorem gX10_leave_X10_isThere : GoodIn wsX10_leave (wsV RX10 51 RX10 yX10_isThere wsX10_isThere) := goodIn_app (goodIn_of _ (by decide +kernel)) ggX10_leave_X10_isThere
set_option maxRecDepth 20000 in
theorem ggX10_leave_X10_bits : GoodIn wsX10_leave wsX10_bits := goodIn_r _ [16] (by decide +kernel) (by decide +kernel)
set_option maxRecDepth 20000 in
theorem gX10_leave_X10_bits : GoodIn wsX10_leave (va_wsS RX10 58 yX10_bits wsX10_bits) := goodIn_app (goodIn_of _ (by decide +kernel)) ggX10_leave_X10_bits
theorem dX10_leave_0 : decode cX10_leave 0 = .ok (.aload_n 0, 1) := by decide +kernel
theorem dX10_leave_1 : decode cX10_leave 1 = .ok (.iload_n 1, 1) := by decide +kernel
theorem dX10_leave_2 : decode cX10_leave 2 = .ok (.invokevirtual 51, 3) := by decide +kernel
theorem dX10_leave_5 : decode cX10_leave 5 = .ok (.ifCond .ne 5, 3) := by decide +kernel
theorem dX10_leave_8 : decode cX10_leave 8 = .ok (.iconst (-1), 1) := by decide +kernel
theorem dX10_leave_9 : decode cX10_leave 9 = .ok (.ireturn, 1) := by decide +kernel
theorem dX10_leave_10 : decode cX10_leave 10 = .ok (.aload_n 0, 1) := by decide +kernel
theorem dX10_leave_11 : decode cX10_leave 11 = .ok (.dup, 1) := by decide +kernel
theorem dX10_leave_12 : decode cX10_leave 12 = .ok (.getfield 40, 3) := by decide +kernel
theorem dX10_leave_15 : decode cX10_leave 15 = .ok (.iconst 1, 1) := by decide +kernel
theorem dX10_leave_16 : decode cX10_leave 16 = .ok (.iload_n 1, 1) := by decide +kernel
theorem dX10_leave_17 : decode cX10_leave 17 = .ok (.ishl, 1) := by decide +kernel
theorem dX10_leave_18 : decode cX10_leave 18 = .ok (.iconst (-1), 1) := by decide +kernel
theorem dX10_leave_19 : decode cX10_leave 19 = .ok (.ixor, 1) := by decide +kernel
theorem dX10_leave_20 : decode cX10_leave 20 = .ok (.iand, 1) := by decide +kernel
theorem dX10_leave_21 : decode cX10_leave 21 = .ok (.putfield 40, 3) := by decide +kernel
theorem dX10_leave_24 : decode cX10_leave 24 = .ok (.aload_n 0, 1) := by decide +kernel
theorem dX10_leave_25 : decode cX10_leave 25 = .ok (.dup, 1) := by decide +kernel
theorem dX10_leave_26 : decode cX10_leave 26 = .ok (.getfield 55, 3) := by decide +kernel
theorem dX10_leave_29 : decode cX10_leave 29 = .ok (.iconst 1, 1) := by decide +kernel
theorem dX10_leave_30 : decode cX10_leave 30 = .ok (.iload_n 1, 1) := by decide +kernel
theorem dX10_leave_31 : decode cX10_leave 31 = .ok (.ishl, 1) := by decide +kernel
theorem dX10_leave_32 : decode cX10_leave 32 = .ok (.iconst (-1), 1) := by decide +kernel
theorem dX10_leave_33 : decode cX10_leave 33 = .ok (.ixor, 1) := by decide +kernel
theorem dX10_leave_34 : decode cX10_leave 34 = .ok (.iand, 1) := by decide +kernel
theorem dX10_leave_35 : decode cX10_leave 35 = .ok (.putfield 55, 3) := by decide +kernel
theorem dX10_leave_38 : decode cX10_leave 38 = .ok (.aload_n 0, 1) := by decide +kernel
theorem dX10_leave_39 : decode cX10_leave 39 = .ok (.getfield 40, 3) := by decide +kernel
theorem dX10_leave_42 : decode cX10_leave 42 = .ok (.invokestatic 58, 3) := by decide +kernel
theorem dX10_leave_45 : decode cX10_leave 45 = .ok (.ireturn, 1) := by decide +kernel
set_option maxRecDepth 20000 in
theorem ggX10_set_X10_in : GoodIn wsX10_set wsX10_in := goodIn_r _ [9] (by decide +kernel) (by decide +kernel)
set_option maxRecDepth 20000 in
theorem gX10_set_X10_in : GoodIn wsX10_set (va_wsS RX10 43 yX10_in wsX10_in) := goodIn_app (goodIn_of _ (by decide +kernel)) ggX10_set_X10_in
set_option maxRecDepth 20000 in
theorem ggX10_set_X10_has : GoodIn wsX10_set wsX10_has := goodIn_r _ [12] (by decide +kernel) (by decide +kernel)
set_option maxRecDepth 20000 in
theorem gX10_set_X10_has : GoodIn wsX10_set (va_wsS RX10 47 yX10_has wsX10_has) := goodIn_app (goodIn_of _ (by decide +kernel)) ggX10_set_X10_has
theorem dX10_set_0 : decode cX10_set 0 = .ok (.iload_n 1, 1) := by decide +kernel
theorem dX10_set_1 : decode cX10_set 1 = .ok (.ifCond .ne 13, 3) := by decide +kernel
theorem dX10_set_4 : decode cX10_set 4 = .ok (.iload_n 2, 1) := by decide +kernel
theorem dX10_set_5 : decode cX10_set 5 = .ok (.iconst 1, 1) := by decide +kernel
theorem dX10_set_6 : decode cX10_set 6 = .ok (.ldc 16, 2) := by decide +kernel
theorem dX10_set_8 : decode cX10_set 8 = .ok (.invokestatic 43, 3) := by decide +kernel
theorem dX10_set_11 : decode cX10_set 11 = .ok (.goto 23, 3) := by decide +kernel
theorem dX10_set_14 : decode cX10_set 14 = .ok (.iload_n 1, 1) := by decide +kernel
theorem dX10_set_15 : decode cX10_set 15 = .ok (.iconst 1, 1) := by decide +kernel
theorem dX10_set_16 : decode cX10_set 16 = .ok (.if_icmp .ne 17, 3) := by decide +kernel
theorem dX10_set_19 : decode cX10_set 19 = .ok (.iload_n 2, 1) := by decide +kernel
theorem dX10_set_20 : decode cX10_set 20 = .ok (.iconst 0, 1) := by decide +kernel
theorem dX10_set_21 : decode cX10_set 21 = .ok (.bipush 99, 2) := by decide +kernel
theorem dX10_set_23 : decode cX10_set 23 = .ok (.invokestatic 43, 3) := by decide +kernel
theorem dX10_set_26 : decode cX10_set 26 = .ok (.ifCond .eq 7, 3) := by decide +kernel
theorem dX10_set_29 : decode cX10_set 29 = .ok (.iconst 1, 1) := by decide +kernel
theorem dX10_set_30 : decode cX10_set 30 = .ok (.goto 4, 3) := by decide +kernel
theorem dX10_set_33 : decode cX10_set 33 = .ok (.iconst 0, 1) := by decide +kernel
theorem dX10_set_34 : decode cX10_set 34 = .ok (.istore_n 3, 1) := by decide +kernel
theorem dX10_set_35 : decode cX10_set 35 = .ok (.iload_n 3, 1) := by decide +kernel
theorem dX10_set_36 : decode cX10_set 36 = .ok (.ifCond .ne 6, 3) := by decide +kernel
theorem dX10_set_39 : decode cX10_set 39 = .ok (.bipush (-2), 2) := by decide +kernel
theorem dX10_set_41 : decode cX10_set 41 = .ok (.ireturn, 1) := by decide +kernel
theorem dX10_set_42 : decode cX10_set 42 = .ok (.iconst 0, 1) := by decide +kernel
theorem dX10_set_43 : decode cX10_set 43 = .ok (.istore 4, 2) := by decide +kernel
theorem dX10_set_45 : decode cX10_set 45 = .ok (.iload 4, 2) := by decide +kernel
theorem dX10_set_47 : decode cX10_set 47 = .ok (.bipush 8, 2) := by decide +kernel
theorem dX10_set_49 : decode cX10_set 49 = .ok (.if_icmp .ge 39, 3) := by decide +kernel
theorem dX10_set_52 : decode cX10_set 52 = .ok (.iload_n 1, 1) := by decide +kernel
theorem dX10_set_53 : decode cX10_set 53 = .ok (.ifCond .ne 35, 3) := by decide +kernel
theorem dX10_set_56 : decode cX10_set 56 = .ok (.aload_n 0, 1) := by decide +kernel
theorem dX10_set_57 : decode cX10_set 57 = .ok (.getfield 40, 3) := by decide +kernel
theorem dX10_set_60 : decode cX10_set 60 = .ok (.iload 4, 2) := by decide +kernel
theorem dX10_set_62 : decode cX10_set 62 = .ok (.invokestatic 47, 3) := by decide +kernel
theorem dX10_set_65 : decode cX10_set 65 = .ok (.ifCond .eq 17, 3) := by decide +kernel
theorem dX10_set_68 : decode cX10_set 68 = .ok (.aload_n 0, 1) := by decide +kernel
theorem dX10_set_69 : decode cX10_set 69 = .ok (.getfield 7, 3) := by decide +kernel
theorem dX10_set_72 : decode cX10_set 72 = .ok (.iload 4, 2) := by decide +kernel
theorem dX10_set_74 : decode cX10_set 74 = .ok (.iaload, 1) := by decide +kernel
theorem dX10_set_75 : decode cX10_set 75 = .ok (.iload_n 2, 1) := by decide +kernel
theorem dX10_set_76 : decode cX10_set 76 = .ok (.if_icmp .le 6, 3) := by decide +kernel
theorem dX10_set_79 : decode cX10_set 79 = .ok (.bipush (-3), 2) := by decide +kernel
theorem dX10_set_81 : decode cX10_set 81 = .ok (.ireturn, 1) := by decide +kernel
theorem dX10_set_82 : decode cX10_set 82 = .ok (.iinc 4 1, 3) := by decide +kernel
theorem dX10_set_85 : decode cX10_set 85 = .ok (.goto (-40), 3) := by decide +kernel
theorem dX10_set_88 : decode cX10_set 88 = .ok (.iload_n 1, 1) := by decide +kernel
theorem dX10_set_89 : decode cX10_set 89 = .ok (.ifCond .ne 10, 3) := by decide +kernel
theorem dX10_set_92 : decode cX10_set 92 = .ok (.aload_n 0, 1) := by decide +kernel
theorem dX10_set_93 : decode cX10_set 93 = .ok (.getfield 17, 3) := by decide +kernel
theorem dX10_set_96 : decode cX10_set 96 = .ok (.goto 7, 3) := by decide +kernel
theorem dX10_set_99 : decode cX10_set 99 = .ok (.aload_n 0, 1) := by decide +kernel
theorem dX10_set_100 : decode cX10_set 100 = .ok (.getfield 21, 3) := by decide +kernel
theorem dX10_set_103 : decode cX10_set 103 = .ok (.istore 4, 2) := by decide +kernel
theorem dX10_set_105 : decode cX10_set 105 = .ok (.aload_n 0, 1) := by decide +kernel
theorem dX10_set_106 : decode cX10_set 106 = .ok (.iload_n 1, 1) := by decide +kernel
theorem dX10_set_107 : decode cX10_set 107 = .ok (.ifCond .ne 7, 3) := by decide +kernel
theorem dX10_set_110 : decode cX10_set 110 = .ok (.iload_n 2, 1) := by decide +kernel
theorem dX10_set_111 : decode cX10_set 111 = .ok (.goto 7, 3) := by decide +kernel
theorem dX10_set_114 : decode cX10_set 114 = .ok (.aload_n 0, 1) := by decide +kernel
theorem dX10_set_115 : decode cX10_set 115 = .ok (.getfield 17, 3) := by decide +kernel
theorem dX10_set_118 : decode cX10_set 118 = .ok (.putfield 17, 3) := by decide +kernel
theorem dX10_set_121 : decode cX10_set 121 = .ok (.aload_n 0, 1) := by decide +kernel
theorem dX10_set_122 : decode cX10_set 122 = .ok (.iload_n 1, 1) := by decide +kernel
theorem dX10_set_123 : decode cX10_set 123 = .ok (.iconst 1, 1) := by decide +kernel
theorem dX10_set_124 : decode cX10_set 124 = .ok (.if_icmp .ne 7, 3) := by decide +kernel
theorem dX10_set_127 : decode cX10_set 127 = .ok (.iload_n 2, 1) := by decide +kernel
theorem dX10_set_128 : decode cX10_set 128 = .ok (.goto 7, 3) := by decide +kernel
theorem dX10_set_131 : decode cX10_set 131 = .ok (.aload_n 0, 1) := by decide +kernel
theorem dX10_set_132 : decode cX10_set 132 = .ok (.getfield 21, 3) := by decide +kernel
theorem dX10_set_135 : decode cX10_set 135 = .ok (.putfield 21, 3) := by decide +kernel
theorem dX10_set_138 : decode cX10_set 138 = .ok (.iload 4, 2) := by decide +kernel
theorem dX10_set_140 : decode cX10_set 140 = .ok (.ireturn, 1) := by decide +kernel
set_option maxRecDepth 20000 in
theorem ggX10_say_X10_in : GoodIn wsX10_say wsX10_in := goodIn_r _ [6] (by decide +kernel) (by decide +kernel)
set_option maxRecDepth 20000 in
theorem gX10_say_X10_in : GoodIn wsX10_say (va_wsS RX10 43 yX10_in wsX10_in) := goodIn_app (goodIn_of _ (by decide +kernel)) ggX10_say_X10_in
theorem dX10_say_0 : decode cX10_say 0 = .ok (.iload_n 1, 1) := by decide +kernel
theorem dX10_say_1 : decode cX10_say 1 = .ok (.bipush 33, 2) := by decide +kernel
theorem dX10_say_3 : decode cX10_say 3 = .ok (.bipush 126, 2) := by decide +kernel
theorem dX10_say_5 : decode cX10_say 5 = .ok (.invokestatic 43, 3) := by decide +kernel
theorem dX10_say_8 : decode cX10_say 8 = .ok (.ifCond .ne 6, 3) := by decide +kernel
theorem dX10_say_11 : decode cX10_say 11 = .ok (.bipush (-2), 2) := by decide +kernel
theorem dX10_say_13 : decode cX10_say 13 = .ok (.ireturn, 1) := by decide +kernel
theorem dX10_say_14 : decode cX10_say 14 = .ok (.aload_n 0, 1) := by decide +kernel
theorem dX10_say_15 : decode cX10_say 15 = .ok (.getfield 62, 3) := by decide +kernel
theorem dX10_say_18 : decode cX10_say 18 = .ok (.bipush 60, 2) := by decide +kernel
theorem dX10_say_20 : decode cX10_say 20 = .ok (.if_icmp .ne 6, 3) := by decide +kernel
theorem dX10_say_23 : decode cX10_say 23 = .ok (.bipush (-4), 2) := by decide +kernel
theorem dX10_say_25 : decode cX10_say 25 = .ok (.ireturn, 1) := by decide +kernel
theorem dX10_say_26 : decode cX10_say 26 = .ok (.aload_n 0, 1) := by decide +kernel
theorem dX10_say_27 : decode cX10_say 27 = .ok (.getfield 27, 3) := by decide +kernel
theorem dX10_say_30 : decode cX10_say 30 = .ok (.aload_n 0, 1) := by decide +kernel
theorem dX10_say_31 : decode cX10_say 31 = .ok (.getfield 62, 3) := by decide +kernel
theorem dX10_say_34 : decode cX10_say 34 = .ok (.iload_n 1, 1) := by decide +kernel
theorem dX10_say_35 : decode cX10_say 35 = .ok (.iastore, 1) := by decide +kernel
theorem dX10_say_36 : decode cX10_say 36 = .ok (.aload_n 0, 1) := by decide +kernel
theorem dX10_say_37 : decode cX10_say 37 = .ok (.dup, 1) := by decide +kernel
theorem dX10_say_38 : decode cX10_say 38 = .ok (.getfield 62, 3) := by decide +kernel
theorem dX10_say_41 : decode cX10_say 41 = .ok (.iconst 1, 1) := by decide +kernel
theorem dX10_say_42 : decode cX10_say 42 = .ok (.iadd, 1) := by decide +kernel
theorem dX10_say_43 : decode cX10_say 43 = .ok (.putfield 62, 3) := by decide +kernel
theorem dX10_say_46 : decode cX10_say 46 = .ok (.aload_n 0, 1) := by decide +kernel
theorem dX10_say_47 : decode cX10_say 47 = .ok (.getfield 62, 3) := by decide +kernel
theorem dX10_say_50 : decode cX10_say 50 = .ok (.ireturn, 1) := by decide +kernel
theorem dX10_wipe_0 : decode cX10_wipe 0 = .ok (.aload_n 0, 1) := by decide +kernel
theorem dX10_wipe_1 : decode cX10_wipe 1 = .ok (.getfield 62, 3) := by decide +kernel
theorem dX10_wipe_4 : decode cX10_wipe 4 = .ok (.istore_n 1, 1) := by decide +kernel
theorem dX10_wipe_5 : decode cX10_wipe 5 = .ok (.aload_n 0, 1) := by decide +kernel
theorem dX10_wipe_6 : decode cX10_wipe 6 = .ok (.iconst 0, 1) := by decide +kernel
theorem dX10_wipe_7 : decode cX10_wipe 7 = .ok (.putfield 62, 3) := by decide +kernel
theorem dX10_wipe_10 : decode cX10_wipe 10 = .ok (.iload_n 1, 1) := by decide +kernel
theorem dX10_wipe_11 : decode cX10_wipe 11 = .ok (.ireturn, 1) := by decide +kernel
set_option maxRecDepth 20000 in
theorem ggX10_isMonk_X10_in : GoodIn wsX10_isMonk wsX10_in := goodIn_r _ [4] (by decide +kernel) (by decide +kernel)
set_option maxRecDepth 20000 in
theorem gX10_isMonk_X10_in : GoodIn wsX10_isMonk (va_wsS RX10 43 yX10_in wsX10_in) := goodIn_app (goodIn_of _ (by decide +kernel)) ggX10_isMonk_X10_in
theorem dX10_isMonk_0 : decode cX10_isMonk 0 = .ok (.iload_n 0, 1) := by decide +kernel
theorem dX10_isMonk_1 : decode cX10_isMonk 1 = .ok (.bipush 65, 2) := by decide +kernel
theorem dX10_isMonk_3 : decode cX10_isMonk 3 = .ok (.bipush 72, 2) := by decide +kernel
theorem dX10_isMonk_5 : decode cX10_isMonk 5 = .ok (.invokestatic 43, 3) := by decide +kernel
theorem dX10_isMonk_8 : decode cX10_isMonk 8 = .ok (.ireturn, 1) := by decide +kernel
set_option maxRecDepth 20000 in
theorem ggX10_faultOf_X10_isMonk : GoodIn wsX10_faultOf wsX10_isMonk := goodIn_r _ [6, 7, 8, 5, 9] (by decide +kernel) (by decide +kernel)
set_option maxRecDepth 20000 in
theorem gX10_faultOf_X10_isMonk : GoodIn wsX10_faultOf (va_wsS RX10 65 yX10_isMonk wsX10_isMonk) := goodIn_app (goodIn_of _ (by decide +kernel)) ggX10_faultOf_X10_isMonk
theorem dX10_faultOf_0 : decode cX10_faultOf 0 = .ok (.iconst 0, 1) := by decide +kernel
theorem dX10_faultOf_1 : decode cX10_faultOf 1 = .ok (.istore_n 1, 1) := by decide +kernel
theorem dX10_faultOf_2 : decode cX10_faultOf 2 = .ok (.iconst 0, 1) := by decide +kernel
theorem dX10_faultOf_3 : decode cX10_faultOf 3 = .ok (.istore_n 2, 1) := by decide +kernel
theorem dX10_faultOf_4 : decode cX10_faultOf 4 = .ok (.iload_n 2, 1) := by decide +kernel
theorem dX10_faultOf_5 : decode cX10_faultOf 5 = .ok (.aload_n 0, 1) := by decide +kernel
theorem dX10_faultOf_6 : decode cX10_faultOf 6 = .ok (.getfield 62, 3) := by decide +kernel
theorem dX10_faultOf_9 : decode cX10_faultOf 9 = .ok (.if_icmp .ge 115, 3) := by decide +kernel
theorem dX10_faultOf_12 : decode cX10_faultOf 12 = .ok (.aload_n 0, 1) := by decide +kernel
theorem dX10_faultOf_13 : decode cX10_faultOf 13 = .ok (.getfield 27, 3) := by decide +kernel
theorem dX10_faultOf_16 : decode cX10_faultOf 16 = .ok (.iload_n 2, 1) := by decide +kernel
theorem dX10_faultOf_17 : decode cX10_faultOf 17 = .ok (.iaload, 1) := by decide +kernel
theorem dX10_faultOf_18 : decode cX10_faultOf 18 = .ok (.istore_n 3, 1) := by decide +kernel
theorem dX10_faultOf_19 : decode cX10_faultOf 19 = .ok (.iload_n 1, 1) := by decide +kernel
theorem dX10_faultOf_20 : decode cX10_faultOf 20 = .ok (.ifCond .eq 36, 3) := by decide +kernel
theorem dX10_faultOf_23 : decode cX10_faultOf 23 = .ok (.iload_n 3, 1) := by decide +kernel
theorem dX10_faultOf_24 : decode cX10_faultOf 24 = .ok (.invokestatic 65, 3) := by decide +kernel
theorem dX10_faultOf_27 : decode cX10_faultOf 27 = .ok (.ifCond .ne 21, 3) := by decide +kernel
theorem dX10_faultOf_30 : decode cX10_faultOf 30 = .ok (.iload_n 3, 1) := by decide +kernel
theorem dX10_faultOf_31 : decode cX10_faultOf 31 = .ok (.bipush 119, 2) := by decide +kernel
theorem dX10_faultOf_33 : decode cX10_faultOf 33 = .ok (.if_icmp .eq 15, 3) := by decide +kernel
theorem dX10_faultOf_36 : decode cX10_faultOf 36 = .ok (.iload_n 3, 1) := by decide +kernel
theorem dX10_faultOf_37 : decode cX10_faultOf 37 = .ok (.bipush 107, 2) := by decide +kernel
theorem dX10_faultOf_39 : decode cX10_faultOf 39 = .ok (.if_icmp .eq 9, 3) := by decide +kernel
theorem dX10_faultOf_42 : decode cX10_faultOf 42 = .ok (.iload_n 3, 1) := by decide +kernel
theorem dX10_faultOf_43 : decode cX10_faultOf 43 = .ok (.bipush 101, 2) := by decide +kernel
theorem dX10_faultOf_45 : decode cX10_faultOf 45 = .ok (.if_icmp .ne 7, 3) := by decide +kernel
theorem dX10_faultOf_48 : decode cX10_faultOf 48 = .ok (.iconst 1, 1) := by decide +kernel
theorem dX10_faultOf_49 : decode cX10_faultOf 49 = .ok (.goto 43, 3) := by decide +kernel
theorem dX10_faultOf_52 : decode cX10_faultOf 52 = .ok (.iconst 0, 1) := by decide +kernel
theorem dX10_faultOf_53 : decode cX10_faultOf 53 = .ok (.goto 39, 3) := by decide +kernel
theorem dX10_faultOf_56 : decode cX10_faultOf 56 = .ok (.iload_n 3, 1) := by decide +kernel
theorem dX10_faultOf_57 : decode cX10_faultOf 57 = .ok (.invokestatic 65, 3) := by decide +kernel
theorem dX10_faultOf_60 : decode cX10_faultOf 60 = .ok (.ifCond .ne 27, 3) := by decide +kernel
theorem dX10_faultOf_63 : decode cX10_faultOf 63 = .ok (.iload_n 3, 1) := by decide +kernel
theorem dX10_faultOf_64 : decode cX10_faultOf 64 = .ok (.bipush 46, 2) := by decide +kernel
theorem dX10_faultOf_66 : decode cX10_faultOf 66 = .ok (.if_icmp .eq 21, 3) := by decide +kernel
theorem dX10_faultOf_69 : decode cX10_faultOf 69 = .ok (.iload_n 3, 1) := by decide +kernel
theorem dX10_faultOf_70 : decode cX10_faultOf 70 = .ok (.bipush 58, 2) := by decide +kernel
theorem dX10_faultOf_72 : decode cX10_faultOf 72 = .ok (.if_icmp .eq 15, 3) := by decide +kernel
theorem dX10_faultOf_75 : decode cX10_faultOf 75 = .ok (.iload_n 3, 1) := by decide +kernel
theorem dX10_faultOf_76 : decode cX10_faultOf 76 = .ok (.bipush 33, 2) := by decide +kernel
theorem dX10_faultOf_78 : decode cX10_faultOf 78 = .ok (.if_icmp .eq 9, 3) := by decide +kernel
theorem dX10_faultOf_81 : decode cX10_faultOf 81 = .ok (.iload_n 3, 1) := by decide +kernel
theorem dX10_faultOf_82 : decode cX10_faultOf 82 = .ok (.bipush 42, 2) := by decide +kernel
theorem dX10_faultOf_84 : decode cX10_faultOf 84 = .ok (.if_icmp .ne 7, 3) := by decide +kernel
theorem dX10_faultOf_87 : decode cX10_faultOf 87 = .ok (.iconst 1, 1) := by decide +kernel
theorem dX10_faultOf_88 : decode cX10_faultOf 88 = .ok (.goto 4, 3) := by decide +kernel
theorem dX10_faultOf_91 : decode cX10_faultOf 91 = .ok (.iconst 0, 1) := by decide +kernel
theorem dX10_faultOf_92 : decode cX10_faultOf 92 = .ok (.istore 4, 2) := by decide +kernel
theorem dX10_faultOf_94 : decode cX10_faultOf 94 = .ok (.iload 4, 2) := by decide +kernel
theorem dX10_faultOf_96 : decode cX10_faultOf 96 = .ok (.ifCond .ne 5, 3) := by decide +kernel
theorem dX10_faultOf_99 : decode cX10_faultOf 99 = .ok (.iload_n 2, 1) := by decide +kernel
theorem dX10_faultOf_100 : decode cX10_faultOf 100 = .ok (.ireturn, 1) := by decide +kernel
theorem dX10_faultOf_101 : decode cX10_faultOf 101 = .ok (.iload_n 1, 1) := by decide +kernel
theorem dX10_faultOf_102 : decode cX10_faultOf 102 = .ok (.ifCond .ne 14, 3) := by decide +kernel
theorem dX10_faultOf_105 : decode cX10_faultOf 105 = .ok (.iload_n 3, 1) := by decide +kernel
theorem dX10_faultOf_106 : decode cX10_faultOf 106 = .ok (.invokestatic 65, 3) := by decide +kernel
theorem dX10_faultOf_109 : decode cX10_faultOf 109 = .ok (.ifCond .eq 7, 3) := by decide +kernel
theorem dX10_faultOf_112 : decode cX10_faultOf 112 = .ok (.iconst 1, 1) := by decide +kernel
theorem dX10_faultOf_113 : decode cX10_faultOf 113 = .ok (.goto 4, 3) := by decide +kernel
theorem dX10_faultOf_116 : decode cX10_faultOf 116 = .ok (.iconst 0, 1) := by decide +kernel
theorem dX10_faultOf_117 : decode cX10_faultOf 117 = .ok (.istore_n 1, 1) := by decide +kernel
theorem dX10_faultOf_118 : decode cX10_faultOf 118 = .ok (.iinc 2 1, 3) := by decide +kernel
theorem dX10_faultOf_121 : decode cX10_faultOf 121 = .ok (.goto (-117), 3) := by decide +kernel
theorem dX10_faultOf_124 : decode cX10_faultOf 124 = .ok (.iload_n 1, 1) := by decide +kernel
theorem dX10_faultOf_125 : decode cX10_faultOf 125 = .ok (.ifCond .eq 10, 3) := by decide +kernel
theorem dX10_faultOf_128 : decode cX10_faultOf 128 = .ok (.aload_n 0, 1) := by decide +kernel
theorem dX10_faultOf_129 : decode cX10_faultOf 129 = .ok (.getfield 62, 3) := by decide +kernel
theorem dX10_faultOf_132 : decode cX10_faultOf 132 = .ok (.goto 5, 3) := by decide +kernel
theorem dX10_faultOf_135 : decode cX10_faultOf 135 = .ok (.bipush (-6), 2) := by decide +kernel
theorem dX10_faultOf_137 : decode cX10_faultOf 137 = .ok (.ireturn, 1) := by decide +kernel
set_option maxRecDepth 20000 in
theorem ggX10_fault_X10_faultOf : GoodIn wsX10_fault wsX10_faultOf := goodIn_r _ [5, 6, 7, 8, 9, 4, 10, 11, 12, 13, 14, 15, 16, 17, 18, 19, 20, 21, 22, 23, 24, 25, 26, 27, 28, 29, 30, 31, 32] (by decide +kernel) (by decide +kernel)
set_option maxRecDepth 20000 in
theorem gX10_fault_X10_faultOf : GoodIn wsX10_fault (wsV RX10 68 RX10 yX10_faultOf wsX10_faultOf) := goodIn_app (goodIn_of _ (by decide +kernel)) ggX10_fault_X10_faultOf
theorem dX10_fault_0 : decode cX10_fault 0 = .ok (.aload_n 0, 1) := by decide +kernel
theorem dX10_fault_1 : decode cX10_fault 1 = .ok (.invokevirtual 68, 3) := by decide +kernel
theorem dX10_fault_4 : decode cX10_fault 4 = .ok (.ireturn, 1) := by decide +kernel
theorem dX10_asNow_0 : decode cX10_asNow 0 = .ok (.aload_n 0, 1) := by decide +kernel
theorem dX10_asNow_1 : decode cX10_asNow 1 = .ok (.aload_n 0, 1) := by decide +kernel
theorem dX10_asNow_2 : decode cX10_asNow 2 = .ok (.getfield 55, 3) := by decide +kernel
theorem dX10_asNow_5 : decode cX10_asNow 5 = .ok (.putfield 72, 3) := by decide +kernel
theorem dX10_asNow_8 : decode cX10_asNow 8 = .ok (.iconst 0, 1) := by decide +kernel
theorem dX10_asNow_9 : decode cX10_asNow 9 = .ok (.istore_n 1, 1) := by decide +kernel
theorem dX10_asNow_10 : decode cX10_asNow 10 = .ok (.iload_n 1, 1) := by decide +kernel
theorem dX10_asNow_11 : decode cX10_asNow 11 = .ok (.bipush 8, 2) := by decide +kernel
theorem dX10_asNow_13 : decode cX10_asNow 13 = .ok (.if_icmp .ge 21, 3) := by decide +kernel
theorem dX10_asNow_16 : decode cX10_asNow 16 = .ok (.aload_n 0, 1) := by decide +kernel
theorem dX10_asNow_17 : decode cX10_asNow 17 = .ok (.getfield 30, 3) := by decide +kernel
theorem dX10_asNow_20 : decode cX10_asNow 20 = .ok (.iload_n 1, 1) := by decide +kernel
theorem dX10_asNow_21 : decode cX10_asNow 21 = .ok (.aload_n 0, 1) := by decide +kernel
theorem dX10_asNow_22 : decode cX10_asNow 22 = .ok (.getfield 7, 3) := by decide +kernel
theorem dX10_asNow_25 : decode cX10_asNow 25 = .ok (.iload_n 1, 1) := by decide +kernel
theorem dX10_asNow_26 : decode cX10_asNow 26 = .ok (.iaload, 1) := by decide +kernel
theorem dX10_asNow_27 : decode cX10_asNow 27 = .ok (.iastore, 1) := by decide +kernel
theorem dX10_asNow_28 : decode cX10_asNow 28 = .ok (.iinc 1 1, 3) := by decide +kernel
theorem dX10_asNow_31 : decode cX10_asNow 31 = .ok (.goto (-21), 3) := by decide +kernel
theorem dX10_asNow_34 : decode cX10_asNow 34 = .ok (.return_, 1) := by decide +kernel
set_option maxRecDepth 20000 in
theorem ggX10_breath_X10_has : GoodIn wsX10_breath wsX10_has := goodIn_r _ [7] (by decide +kernel) (by decide +kernel)
set_option maxRecDepth 20000 in
theorem gX10_breath_X10_has : GoodIn wsX10_breath (va_wsS RX10 47 yX10_has wsX10_has) := goodIn_app (goodIn_of _ (by decide +kernel)) ggX10_breath_X10_has
theorem dX10_breath_0 : decode cX10_breath 0 = .ok (.iconst 0, 1) := by decide +kernel
theorem dX10_breath_1 : decode cX10_breath 1 = .ok (.istore_n 1, 1) := by decide +kernel
theorem dX10_breath_2 : decode cX10_breath 2 = .ok (.iload_n 1, 1) := by decide +kernel
theorem dX10_breath_3 : decode cX10_breath 3 = .ok (.bipush 8, 2) := by decide +kernel
theorem dX10_breath_5 : decode cX10_breath 5 = .ok (.if_icmp .ge 58, 3) := by decide +kernel
theorem dX10_breath_8 : decode cX10_breath 8 = .ok (.aload_n 0, 1) := by decide +kernel
theorem dX10_breath_9 : decode cX10_breath 9 = .ok (.getfield 72, 3) := by decide +kernel
theorem dX10_breath_12 : decode cX10_breath 12 = .ok (.iload_n 1, 1) := by decide +kernel
theorem dX10_breath_13 : decode cX10_breath 13 = .ok (.invokestatic 47, 3) := by decide +kernel
theorem dX10_breath_16 : decode cX10_breath 16 = .ok (.ifCond .eq 41, 3) := by decide +kernel
theorem dX10_breath_19 : decode cX10_breath 19 = .ok (.aload_n 0, 1) := by decide +kernel
theorem dX10_breath_20 : decode cX10_breath 20 = .ok (.getfield 30, 3) := by decide +kernel
theorem dX10_breath_23 : decode cX10_breath 23 = .ok (.iload_n 1, 1) := by decide +kernel
theorem dX10_breath_24 : decode cX10_breath 24 = .ok (.aload_n 0, 1) := by decide +kernel
theorem dX10_breath_25 : decode cX10_breath 25 = .ok (.getfield 30, 3) := by decide +kernel
theorem dX10_breath_28 : decode cX10_breath 28 = .ok (.iload_n 1, 1) := by decide +kernel
theorem dX10_breath_29 : decode cX10_breath 29 = .ok (.iaload, 1) := by decide +kernel
theorem dX10_breath_30 : decode cX10_breath 30 = .ok (.aload_n 0, 1) := by decide +kernel
theorem dX10_breath_31 : decode cX10_breath 31 = .ok (.getfield 13, 3) := by decide +kernel
theorem dX10_breath_34 : decode cX10_breath 34 = .ok (.iload_n 1, 1) := by decide +kernel
theorem dX10_breath_35 : decode cX10_breath 35 = .ok (.iaload, 1) := by decide +kernel
theorem dX10_breath_36 : decode cX10_breath 36 = .ok (.if_icmp .le 19, 3) := by decide +kernel
theorem dX10_breath_39 : decode cX10_breath 39 = .ok (.aload_n 0, 1) := by decide +kernel
theorem dX10_breath_40 : decode cX10_breath 40 = .ok (.getfield 30, 3) := by decide +kernel
theorem dX10_breath_43 : decode cX10_breath 43 = .ok (.iload_n 1, 1) := by decide +kernel
theorem dX10_breath_44 : decode cX10_breath 44 = .ok (.iaload, 1) := by decide +kernel
theorem dX10_breath_45 : decode cX10_breath 45 = .ok (.aload_n 0, 1) := by decide +kernel
theorem dX10_breath_46 : decode cX10_breath 46 = .ok (.getfield 13, 3) := by decide +kernel
theorem dX10_breath_49 : decode cX10_breath 49 = .ok (.iload_n 1, 1) := by decide +kernel
theorem dX10_breath_50 : decode cX10_breath 50 = .ok (.iaload, 1) := by decide +kernel
theorem dX10_breath_51 : decode cX10_breath 51 = .ok (.isub, 1) := by decide +kernel
theorem dX10_breath_52 : decode cX10_breath 52 = .ok (.goto 4, 3) := by decide +kernel
theorem dX10_breath_55 : decode cX10_breath 55 = .ok (.iconst 0, 1) := by decide +kernel
theorem dX10_breath_56 : decode cX10_breath 56 = .ok (.iastore, 1) := by decide +kernel
theorem dX10_breath_57 : decode cX10_breath 57 = .ok (.iinc 1 1, 3) := by decide +kernel
theorem dX10_breath_60 : decode cX10_breath 60 = .ok (.goto (-58), 3) := by decide +kernel
theorem dX10_breath_63 : decode cX10_breath 63 = .ok (.return_, 1) := by decide +kernel
theorem dX10_more_0 : decode cX10_more 0 = .ok (.aload_n 0, 1) := by decide +kernel
theorem dX10_more_1 : decode cX10_more 1 = .ok (.getfield 30, 3) := by decide +kernel
theorem dX10_more_4 : decode cX10_more 4 = .ok (.iload_n 1, 1) := by decide +kernel
theorem dX10_more_5 : decode cX10_more 5 = .ok (.aload_n 0, 1) := by decide +kernel
theorem dX10_more_6 : decode cX10_more 6 = .ok (.getfield 30, 3) := by decide +kernel
theorem dX10_more_9 : decode cX10_more 9 = .ok (.iload_n 1, 1) := by decide +kernel
theorem dX10_more_10 : decode cX10_more 10 = .ok (.iaload, 1) := by decide +kernel
theorem dX10_more_11 : decode cX10_more 11 = .ok (.iload_n 2, 1) := by decide +kernel
theorem dX10_more_12 : decode cX10_more 12 = .ok (.iadd, 1) := by decide +kernel
theorem dX10_more_13 : decode cX10_more 13 = .ok (.aload_n 0, 1) := by decide +kernel
theorem dX10_more_14 : decode cX10_more 14 = .ok (.getfield 17, 3) := by decide +kernel
theorem dX10_more_17 : decode cX10_more 17 = .ok (.if_icmp .le 10, 3) := by decide +kernel
theorem dX10_more_20 : decode cX10_more 20 = .ok (.aload_n 0, 1) := by decide +kernel
theorem dX10_more_21 : decode cX10_more 21 = .ok (.getfield 17, 3) := by decide +kernel
theorem dX10_more_24 : decode cX10_more 24 = .ok (.goto 11, 3) := by decide +kernel
theorem dX10_more_27 : decode cX10_more 27 = .ok (.aload_n 0, 1) := by decide +kernel
theorem dX10_more_28 : decode cX10_more 28 = .ok (.getfield 30, 3) := by decide +kernel
theorem dX10_more_31 : decode cX10_more 31 = .ok (.iload_n 1, 1) := by decide +kernel
theorem dX10_more_32 : decode cX10_more 32 = .ok (.iaload, 1) := by decide +kernel
theorem dX10_more_33 : decode cX10_more 33 = .ok (.iload_n 2, 1) := by decide +kernel
theorem dX10_more_34 : decode cX10_more 34 = .ok (.iadd, 1) := by decide +kernel
theorem dX10_more_35 : decode cX10_more 35 = .ok (.iastore, 1) := by decide +kernel
theorem dX10_more_36 : decode cX10_more 36 = .ok (.return_, 1) := by decide +kernel
set_option maxRecDepth 20000 in
theorem ggX10_first_X10_has : GoodIn wsX10_first wsX10_has := goodIn_r _ [6] (by decide +kernel) (by decide +kernel)
set_option maxRecDepth 20000 in
theorem gX10_first_X10_has : GoodIn wsX10_first (va_wsS RX10 47 yX10_has wsX10_has) := goodIn_app (goodIn_of _ (by decide +kernel)) ggX10_first_X10_has
theorem dX10_first_0 : decode cX10_first 0 = .ok (.bipush (-6), 2) := by decide +kernel
theorem dX10_first_2 : decode cX10_first 2 = .ok (.istore_n 1, 1) := by decide +kernel
theorem dX10_first_3 : decode cX10_first 3 = .ok (.iconst 0, 1) := by decide +kernel
theorem dX10_first_4 : decode cX10_first 4 = .ok (.istore_n 2, 1) := by decide +kernel
theorem dX10_first_5 : decode cX10_first 5 = .ok (.iload_n 2, 1) := by decide +kernel
theorem dX10_first_6 : decode cX10_first 6 = .ok (.bipush 8, 2) := by decide +kernel
theorem dX10_first_8 : decode cX10_first 8 = .ok (.if_icmp .ge 45, 3) := by decide +kernel
theorem dX10_first_11 : decode cX10_first 11 = .ok (.aload_n 0, 1) := by decide +kernel
theorem dX10_first_12 : decode cX10_first 12 = .ok (.getfield 72, 3) := by decide +kernel
theorem dX10_first_15 : decode cX10_first 15 = .ok (.iload_n 2, 1) := by decide +kernel
theorem dX10_first_16 : decode cX10_first 16 = .ok (.invokestatic 47, 3) := by decide +kernel
theorem dX10_first_19 : decode cX10_first 19 = .ok (.ifCond .eq 26, 3) := by decide +kernel
theorem dX10_first_22 : decode cX10_first 22 = .ok (.iload_n 1, 1) := by decide +kernel
theorem dX10_first_23 : decode cX10_first 23 = .ok (.ifCond .lt 18, 3) := by decide +kernel
theorem dX10_first_26 : decode cX10_first 26 = .ok (.aload_n 0, 1) := by decide +kernel
theorem dX10_first_27 : decode cX10_first 27 = .ok (.getfield 30, 3) := by decide +kernel
theorem dX10_first_30 : decode cX10_first 30 = .ok (.iload_n 2, 1) := by decide +kernel
theorem dX10_first_31 : decode cX10_first 31 = .ok (.iaload, 1) := by decide +kernel
theorem dX10_first_32 : decode cX10_first 32 = .ok (.aload_n 0, 1) := by decide +kernel
theorem dX10_first_33 : decode cX10_first 33 = .ok (.getfield 30, 3) := by decide +kernel
theorem dX10_first_36 : decode cX10_first 36 = .ok (.iload_n 1, 1) := by decide +kernel
theorem dX10_first_37 : decode cX10_first 37 = .ok (.iaload, 1) := by decide +kernel
theorem dX10_first_38 : decode cX10_first 38 = .ok (.if_icmp .ge 7, 3) := by decide +kernel
theorem dX10_first_41 : decode cX10_first 41 = .ok (.iload_n 2, 1) := by decide +kernel
theorem dX10_first_42 : decode cX10_first 42 = .ok (.goto 4, 3) := by decide +kernel
theorem dX10_first_45 : decode cX10_first 45 = .ok (.iload_n 1, 1) := by decide +kernel
theorem dX10_first_46 : decode cX10_first 46 = .ok (.istore_n 1, 1) := by decide +kernel
theorem dX10_first_47 : decode cX10_first 47 = .ok (.iinc 2 1, 3) := by decide +kernel
theorem dX10_first_50 : decode cX10_first 50 = .ok (.goto (-45), 3) := by decide +kernel
theorem dX10_first_53 : decode cX10_first 53 = .ok (.iload_n 1, 1) := by decide +kernel
theorem dX10_first_54 : decode cX10_first 54 = .ok (.ireturn, 1) := by decide +kernel
set_option maxRecDepth 20000 in
theorem ggX10_common_X10_has : GoodIn wsX10_common wsX10_has := goodIn_r _ [7] (by decide +kernel) (by decide +kernel)
set_option maxRecDepth 20000 in
theorem gX10_common_X10_has : GoodIn wsX10_common (va_wsS RX10 47 yX10_has wsX10_has) := goodIn_app (goodIn_of _ (by decide +kernel)) ggX10_common_X10_has
theorem dX10_common_0 : decode cX10_common 0 = .ok (.ldc 75, 2) := by decide +kernel
theorem dX10_common_2 : decode cX10_common 2 = .ok (.istore_n 1, 1) := by decide +kernel
theorem dX10_common_3 : decode cX10_common 3 = .ok (.iconst 0, 1) := by decide +kernel
theorem dX10_common_4 : decode cX10_common 4 = .ok (.istore_n 2, 1) := by decide +kernel
theorem dX10_common_5 : decode cX10_common 5 = .ok (.iconst 0, 1) := by decide +kernel
theorem dX10_common_6 : decode cX10_common 6 = .ok (.istore_n 3, 1) := by decide +kernel
theorem dX10_common_7 : decode cX10_common 7 = .ok (.iload_n 3, 1) := by decide +kernel
theorem dX10_common_8 : decode cX10_common 8 = .ok (.bipush 8, 2) := by decide +kernel
theorem dX10_common_10 : decode cX10_common 10 = .ok (.if_icmp .ge 135, 3) := by decide +kernel
theorem dX10_common_13 : decode cX10_common 13 = .ok (.aload_n 0, 1) := by decide +kernel
theorem dX10_common_14 : decode cX10_common 14 = .ok (.getfield 72, 3) := by decide +kernel
theorem dX10_common_17 : decode cX10_common 17 = .ok (.iload_n 3, 1) := by decide +kernel
theorem dX10_common_18 : decode cX10_common 18 = .ok (.invokestatic 47, 3) := by decide +kernel
theorem dX10_common_21 : decode cX10_common 21 = .ok (.ifCond .eq 118, 3) := by decide +kernel
theorem dX10_common_24 : decode cX10_common 24 = .ok (.iconst 0, 1) := by decide +kernel
theorem dX10_common_25 : decode cX10_common 25 = .ok (.istore 4, 2) := by decide +kernel
theorem dX10_common_27 : decode cX10_common 27 = .ok (.iconst 0, 1) := by decide +kernel
theorem dX10_common_28 : decode cX10_common 28 = .ok (.istore 5, 2) := by decide +kernel
theorem dX10_common_30 : decode cX10_common 30 = .ok (.iload 5, 2) := by decide +kernel
theorem dX10_common_32 : decode cX10_common 32 = .ok (.bipush 8, 2) := by decide +kernel
theorem dX10_common_34 : decode cX10_common 34 = .ok (.if_icmp .ge 47, 3) := by decide +kernel
theorem dX10_common_37 : decode cX10_common 37 = .ok (.iload 4, 2) := by decide +kernel
theorem dX10_common_39 : decode cX10_common 39 = .ok (.aload_n 0, 1) := by decide +kernel
theorem dX10_common_40 : decode cX10_common 40 = .ok (.getfield 72, 3) := by decide +kernel
theorem dX10_common_43 : decode cX10_common 43 = .ok (.iload 5, 2) := by decide +kernel
theorem dX10_common_45 : decode cX10_common 45 = .ok (.invokestatic 47, 3) := by decide +kernel
theorem dX10_common_48 : decode cX10_common 48 = .ok (.ifCond .eq 23, 3) := by decide +kernel
theorem dX10_common_51 : decode cX10_common 51 = .ok (.aload_n 0, 1) := by decide +kernel
theorem dX10_common_52 : decode cX10_common 52 = .ok (.getfield 30, 3) := by decide +kernel
theorem dX10_common_55 : decode cX10_common 55 = .ok (.iload 5, 2) := by decide +kernel
theorem dX10_common_57 : decode cX10_common 57 = .ok (.iaload, 1) := by decide +kernel
theorem dX10_common_58 : decode cX10_common 58 = .ok (.aload_n 0, 1) := by decide +kernel
theorem dX10_common_59 : decode cX10_common 59 = .ok (.getfield 30, 3) := by decide +kernel
theorem dX10_common_62 : decode cX10_common 62 = .ok (.iload_n 3, 1) := by decide +kernel
theorem dX10_common_63 : decode cX10_common 63 = .ok (.iaload, 1) := by decide +kernel
theorem dX10_common_64 : decode cX10_common 64 = .ok (.if_icmp .ne 7, 3) := by decide +kernel
theorem dX10_common_67 : decode cX10_common 67 = .ok (.iconst 1, 1) := by decide +kernel
theorem dX10_common_68 : decode cX10_common 68 = .ok (.goto 4, 3) := by decide +kernel
theorem dX10_common_71 : decode cX10_common 71 = .ok (.iconst 0, 1) := by decide +kernel
theorem dX10_common_72 : decode cX10_common 72 = .ok (.iadd, 1) := by decide +kernel
theorem dX10_common_73 : decode cX10_common 73 = .ok (.istore 4, 2) := by decide +kernel
theorem dX10_common_75 : decode cX10_common 75 = .ok (.iinc 5 1, 3) := by decide +kernel
theorem dX10_common_78 : decode cX10_common 78 = .ok (.goto (-48), 3) := by decide +kernel
theorem dX10_common_81 : decode cX10_common 81 = .ok (.iload 4, 2) := by decide +kernel
theorem dX10_common_83 : decode cX10_common 83 = .ok (.iload_n 2, 1) := by decide +kernel
theorem dX10_common_84 : decode cX10_common 84 = .ok (.if_icmp .gt 19, 3) := by decide +kernel
theorem dX10_common_87 : decode cX10_common 87 = .ok (.iload 4, 2) := by decide +kernel
theorem dX10_common_89 : decode cX10_common 89 = .ok (.iload_n 2, 1) := by decide +kernel
theorem dX10_common_90 : decode cX10_common 90 = .ok (.if_icmp .ne 17, 3) := by decide +kernel
theorem dX10_common_93 : decode cX10_common 93 = .ok (.aload_n 0, 1) := by decide +kernel
theorem dX10_common_94 : decode cX10_common 94 = .ok (.getfield 30, 3) := by decide +kernel
theorem dX10_common_97 : decode cX10_common 97 = .ok (.iload_n 3, 1) := by decide +kernel
theorem dX10_common_98 : decode cX10_common 98 = .ok (.iaload, 1) := by decide +kernel
theorem dX10_common_99 : decode cX10_common 99 = .ok (.iload_n 1, 1) := by decide +kernel
theorem dX10_common_100 : decode cX10_common 100 = .ok (.if_icmp .ge 7, 3) := by decide +kernel
theorem dX10_common_103 : decode cX10_common 103 = .ok (.iconst 1, 1) := by decide +kernel
theorem dX10_common_104 : decode cX10_common 104 = .ok (.goto 4, 3) := by decide +kernel
theorem dX10_common_107 : decode cX10_common 107 = .ok (.iconst 0, 1) := by decide +kernel
theorem dX10_common_108 : decode cX10_common 108 = .ok (.istore 5, 2) := by decide +kernel
theorem dX10_common_110 : decode cX10_common 110 = .ok (.iload 5, 2) := by decide +kernel
theorem dX10_common_112 : decode cX10_common 112 = .ok (.ifCond .eq 12, 3) := by decide +kernel
theorem dX10_common_115 : decode cX10_common 115 = .ok (.aload_n 0, 1) := by decide +kernel
theorem dX10_common_116 : decode cX10_common 116 = .ok (.getfield 30, 3) := by decide +kernel
theorem dX10_common_119 : decode cX10_common 119 = .ok (.iload_n 3, 1) := by decide +kernel
theorem dX10_common_120 : decode cX10_common 120 = .ok (.iaload, 1) := by decide +kernel
theorem dX10_common_121 : decode cX10_common 121 = .ok (.goto 4, 3) := by decide +kernel
theorem dX10_common_124 : decode cX10_common 124 = .ok (.iload_n 1, 1) := by decide +kernel
theorem dX10_common_125 : decode cX10_common 125 = .ok (.istore_n 1, 1) := by decide +kernel
theorem dX10_common_126 : decode cX10_common 126 = .ok (.iload 4, 2) := by decide +kernel
theorem dX10_common_128 : decode cX10_common 128 = .ok (.iload_n 2, 1) := by decide +kernel
theorem dX10_common_129 : decode cX10_common 129 = .ok (.if_icmp .le 8, 3) := by decide +kernel
theorem dX10_common_132 : decode cX10_common 132 = .ok (.iload 4, 2) := by decide +kernel
theorem dX10_common_134 : decode cX10_common 134 = .ok (.goto 4, 3) := by decide +kernel
theorem dX10_common_137 : decode cX10_common 137 = .ok (.iload_n 2, 1) := by decide +kernel
theorem dX10_common_138 : decode cX10_common 138 = .ok (.istore_n 2, 1) := by decide +kernel
theorem dX10_common_139 : decode cX10_common 139 = .ok (.iinc 3 1, 3) := by decide +kernel
theorem dX10_common_142 : decode cX10_common 142 = .ok (.goto (-135), 3) := by decide +kernel
theorem dX10_common_145 : decode cX10_common 145 = .ok (.iload_n 1, 1) := by decide +kernel
theorem dX10_common_146 : decode cX10_common 146 = .ok (.ireturn, 1) := by decide +kernel
set_option maxRecDepth 20000 in
theorem ggX10_isZero_X10_has : GoodIn wsX10_isZero wsX10_has := goodIn_r _ [6] (by decide +kernel) (by decide +kernel)
set_option maxRecDepth 20000 in
theorem gX10_isZero_X10_has : GoodIn wsX10_isZero (va_wsS RX10 47 yX10_has wsX10_has) := goodIn_app (goodIn_of _ (by decide +kernel)) ggX10_isZero_X10_has
theorem dX10_isZero_0 : decode cX10_isZero 0 = .ok (.iconst 0, 1) := by decide +kernel
theorem dX10_isZero_1 : decode cX10_isZero 1 = .ok (.istore_n 1, 1) := by decide +kernel
theorem dX10_isZero_2 : decode cX10_isZero 2 = .ok (.iconst 0, 1) := by decide +kernel
theorem dX10_isZero_3 : decode cX10_isZero 3 = .ok (.istore_n 2, 1) := by decide +kernel
theorem dX10_isZero_4 : decode cX10_isZero 4 = .ok (.iload_n 2, 1) := by decide +kernel
theorem dX10_isZero_5 : decode cX10_isZero 5 = .ok (.bipush 8, 2) := by decide +kernel
theorem dX10_isZero_7 : decode cX10_isZero 7 = .ok (.if_icmp .ge 39, 3) := by decide +kernel
theorem dX10_isZero_10 : decode cX10_isZero 10 = .ok (.iload_n 1, 1) := by decide +kernel
theorem dX10_isZero_11 : decode cX10_isZero 11 = .ok (.ifCond .ne 23, 3) := by decide +kernel
theorem dX10_isZero_14 : decode cX10_isZero 14 = .ok (.aload_n 0, 1) := by decide +kernel
theorem dX10_isZero_15 : decode cX10_isZero 15 = .ok (.getfield 40, 3) := by decide +kernel
theorem dX10_isZero_18 : decode cX10_isZero 18 = .ok (.iload_n 2, 1) := by decide +kernel
theorem dX10_isZero_19 : decode cX10_isZero 19 = .ok (.invokestatic 47, 3) := by decide +kernel
theorem dX10_isZero_22 : decode cX10_isZero 22 = .ok (.ifCond .eq 16, 3) := by decide +kernel
theorem dX10_isZero_25 : decode cX10_isZero 25 = .ok (.aload_n 0, 1) := by decide +kernel
theorem dX10_isZero_26 : decode cX10_isZero 26 = .ok (.getfield 30, 3) := by decide +kernel
theorem dX10_isZero_29 : decode cX10_isZero 29 = .ok (.iload_n 2, 1) := by decide +kernel
theorem dX10_isZero_30 : decode cX10_isZero 30 = .ok (.iaload, 1) := by decide +kernel
theorem dX10_isZero_31 : decode cX10_isZero 31 = .ok (.ifCond .ne 7, 3) := by decide +kernel
theorem dX10_isZero_34 : decode cX10_isZero 34 = .ok (.iconst 1, 1) := by decide +kernel
theorem dX10_isZero_35 : decode cX10_isZero 35 = .ok (.goto 4, 3) := by decide +kernel
theorem dX10_isZero_38 : decode cX10_isZero 38 = .ok (.iconst 0, 1) := by decide +kernel
theorem dX10_isZero_39 : decode cX10_isZero 39 = .ok (.istore_n 1, 1) := by decide +kernel
theorem dX10_isZero_40 : decode cX10_isZero 40 = .ok (.iinc 2 1, 3) := by decide +kernel
theorem dX10_isZero_43 : decode cX10_isZero 43 = .ok (.goto (-39), 3) := by decide +kernel
theorem dX10_isZero_46 : decode cX10_isZero 46 = .ok (.iload_n 1, 1) := by decide +kernel
theorem dX10_isZero_47 : decode cX10_isZero 47 = .ok (.ireturn, 1) := by decide +kernel
set_option maxRecDepth 20000 in
theorem ggX10_spread_X10_has : GoodIn wsX10_spread wsX10_has := goodIn_r _ [7] (by decide +kernel) (by decide +kernel)
set_option maxRecDepth 20000 in
theorem gX10_spread_X10_has : GoodIn wsX10_spread (va_wsS RX10 47 yX10_has wsX10_has) := goodIn_app (goodIn_of _ (by decide +kernel)) ggX10_spread_X10_has
theorem dX10_spread_0 : decode cX10_spread 0 = .ok (.ldc 75, 2) := by decide +kernel
theorem dX10_spread_2 : decode cX10_spread 2 = .ok (.istore_n 1, 1) := by decide +kernel
theorem dX10_spread_3 : decode cX10_spread 3 = .ok (.iconst 0, 1) := by decide +kernel
theorem dX10_spread_4 : decode cX10_spread 4 = .ok (.istore_n 2, 1) := by decide +kernel
theorem dX10_spread_5 : decode cX10_spread 5 = .ok (.iconst 0, 1) := by decide +kernel
theorem dX10_spread_6 : decode cX10_spread 6 = .ok (.istore_n 3, 1) := by decide +kernel
theorem dX10_spread_7 : decode cX10_spread 7 = .ok (.iload_n 3, 1) := by decide +kernel
theorem dX10_spread_8 : decode cX10_spread 8 = .ok (.bipush 8, 2) := by decide +kernel
theorem dX10_spread_10 : decode cX10_spread 10 = .ok (.if_icmp .ge 62, 3) := by decide +kernel
theorem dX10_spread_13 : decode cX10_spread 13 = .ok (.aload_n 0, 1) := by decide +kernel
theorem dX10_spread_14 : decode cX10_spread 14 = .ok (.getfield 72, 3) := by decide +kernel
theorem dX10_spread_17 : decode cX10_spread 17 = .ok (.iload_n 3, 1) := by decide +kernel
theorem dX10_spread_18 : decode cX10_spread 18 = .ok (.invokestatic 47, 3) := by decide +kernel
theorem dX10_spread_21 : decode cX10_spread 21 = .ok (.ifCond .eq 45, 3) := by decide +kernel
theorem dX10_spread_24 : decode cX10_spread 24 = .ok (.aload_n 0, 1) := by decide +kernel
theorem dX10_spread_25 : decode cX10_spread 25 = .ok (.getfield 30, 3) := by decide +kernel
theorem dX10_spread_28 : decode cX10_spread 28 = .ok (.iload_n 3, 1) := by decide +kernel
theorem dX10_spread_29 : decode cX10_spread 29 = .ok (.iaload, 1) := by decide +kernel
theorem dX10_spread_30 : decode cX10_spread 30 = .ok (.iload_n 1, 1) := by decide +kernel
theorem dX10_spread_31 : decode cX10_spread 31 = .ok (.if_icmp .ge 12, 3) := by decide +kernel
theorem dX10_spread_34 : decode cX10_spread 34 = .ok (.aload_n 0, 1) := by decide +kernel
theorem dX10_spread_35 : decode cX10_spread 35 = .ok (.getfield 30, 3) := by decide +kernel
theorem dX10_spread_38 : decode cX10_spread 38 = .ok (.iload_n 3, 1) := by decide +kernel
theorem dX10_spread_39 : decode cX10_spread 39 = .ok (.iaload, 1) := by decide +kernel
theorem dX10_spread_40 : decode cX10_spread 40 = .ok (.goto 4, 3) := by decide +kernel
theorem dX10_spread_43 : decode cX10_spread 43 = .ok (.iload_n 1, 1) := by decide +kernel
theorem dX10_spread_44 : decode cX10_spread 44 = .ok (.istore_n 1, 1) := by decide +kernel
theorem dX10_spread_45 : decode cX10_spread 45 = .ok (.aload_n 0, 1) := by decide +kernel
theorem dX10_spread_46 : decode cX10_spread 46 = .ok (.getfield 30, 3) := by decide +kernel
theorem dX10_spread_49 : decode cX10_spread 49 = .ok (.iload_n 3, 1) := by decide +kernel
theorem dX10_spread_50 : decode cX10_spread 50 = .ok (.iaload, 1) := by decide +kernel
theorem dX10_spread_51 : decode cX10_spread 51 = .ok (.iload_n 2, 1) := by decide +kernel
theorem dX10_spread_52 : decode cX10_spread 52 = .ok (.if_icmp .le 12, 3) := by decide +kernel
theorem dX10_spread_55 : decode cX10_spread 55 = .ok (.aload_n 0, 1) := by decide +kernel
theorem dX10_spread_56 : decode cX10_spread 56 = .ok (.getfield 30, 3) := by decide +kernel
theorem dX10_spread_59 : decode cX10_spread 59 = .ok (.iload_n 3, 1) := by decide +kernel
theorem dX10_spread_60 : decode cX10_spread 60 = .ok (.iaload, 1) := by decide +kernel
theorem dX10_spread_61 : decode cX10_spread 61 = .ok (.goto 4, 3) := by decide +kernel
theorem dX10_spread_64 : decode cX10_spread 64 = .ok (.iload_n 2, 1) := by decide +kernel
theorem dX10_spread_65 : decode cX10_spread 65 = .ok (.istore_n 2, 1) := by decide +kernel
theorem dX10_spread_66 : decode cX10_spread 66 = .ok (.iinc 3 1, 3) := by decide +kernel
theorem dX10_spread_69 : decode cX10_spread 69 = .ok (.goto (-62), 3) := by decide +kernel
theorem dX10_spread_72 : decode cX10_spread 72 = .ok (.iload_n 1, 1) := by decide +kernel
theorem dX10_spread_73 : decode cX10_spread 73 = .ok (.ldc 75, 2) := by decide +kernel
theorem dX10_spread_75 : decode cX10_spread 75 = .ok (.if_icmp .ne 7, 3) := by decide +kernel
theorem dX10_spread_78 : decode cX10_spread 78 = .ok (.iconst 0, 1) := by decide +kernel
theorem dX10_spread_79 : decode cX10_spread 79 = .ok (.goto 6, 3) := by decide +kernel
theorem dX10_spread_82 : decode cX10_spread 82 = .ok (.iload_n 2, 1) := by decide +kernel
theorem dX10_spread_83 : decode cX10_spread 83 = .ok (.iload_n 1, 1) := by decide +kernel
theorem dX10_spread_84 : decode cX10_spread 84 = .ok (.isub, 1) := by decide +kernel
theorem dX10_spread_85 : decode cX10_spread 85 = .ok (.ireturn, 1) := by decide +kernel
set_option maxRecDepth 20000 in
theorem ggX10_whyNotSleep_X10_isThere : GoodIn wsX10_whyNotSleep wsX10_isThere := goodIn_r _ [6, 7, 8, 9, 5, 10, 11, 12, 13, 14, 15, 16, 17, 18, 19, 20, 21, 22, 23, 24, 25, 26, 27, 28, 29, 30, 31, 32] (by decide +kernel) (by decide +kernel)
set_option maxRecDepth 20000 in
theorem gX10_whyNotSleep_X10_isThere : GoodIn wsX10_whyNotSleep (wsV RX10 51 RX10 yX10_isThere wsX10_isThere) := goodIn_app (goodIn_of _ (by decide +kernel)) ggX10_whyNotSleep_X10_isThere
set_option maxRecDepth 20000 in
theorem ggX10_whyNotSleep_X10_has : GoodIn wsX10_whyNotSleep wsX10_has := goodIn_r _ [13] (by decide +kernel) (by decide +kernel)
set_option maxRecDepth 20000 in
theorem gX10_whyNotSleep_X10_has : GoodIn wsX10_whyNotSleep (va_wsS RX10 47 yX10_has wsX10_has) := goodIn_app (goodIn_of _ (by decide +kernel)) ggX10_whyNotSleep_X10_has
theorem dX10_whyNotSleep_0 : decode cX10_whyNotSleep 0 = .ok (.aload_n 0, 1) := by decide +kernel
theorem dX10_whyNotSleep_1 : decode cX10_whyNotSleep 1 = .ok (.iload_n 1, 1) := by decide +kernel
theorem dX10_whyNotSleep_2 : decode cX10_whyNotSleep 2 = .ok (.invokevirtual 51, 3) := by decide +kernel
theorem dX10_whyNotSleep_5 : decode cX10_whyNotSleep 5 = .ok (.ifCond .eq 11, 3) := by decide +kernel
theorem dX10_whyNotSleep_8 : decode cX10_whyNotSleep 8 = .ok (.aload_n 0, 1) := by decide +kernel
theorem dX10_whyNotSleep_9 : decode cX10_whyNotSleep 9 = .ok (.iload_n 2, 1) := by decide +kernel
theorem dX10_whyNotSleep_10 : decode cX10_whyNotSleep 10 = .ok (.invokevirtual 51, 3) := by decide +kernel
theorem dX10_whyNotSleep_13 : decode cX10_whyNotSleep 13 = .ok (.ifCond .ne 5, 3) := by decide +kernel
theorem dX10_whyNotSleep_16 : decode cX10_whyNotSleep 16 = .ok (.iconst 1, 1) := by decide +kernel
theorem dX10_whyNotSleep_17 : decode cX10_whyNotSleep 17 = .ok (.ireturn, 1) := by decide +kernel
theorem dX10_whyNotSleep_18 : decode cX10_whyNotSleep 18 = .ok (.iload_n 1, 1) := by decide +kernel
theorem dX10_whyNotSleep_19 : decode cX10_whyNotSleep 19 = .ok (.iload_n 2, 1) := by decide +kernel
theorem dX10_whyNotSleep_20 : decode cX10_whyNotSleep 20 = .ok (.if_icmp .ne 7, 3) := by decide +kernel
theorem dX10_whyNotSleep_23 : decode cX10_whyNotSleep 23 = .ok (.iconst 2, 1) := by decide +kernel
theorem dX10_whyNotSleep_24 : decode cX10_whyNotSleep 24 = .ok (.goto 30, 3) := by decide +kernel
theorem dX10_whyNotSleep_27 : decode cX10_whyNotSleep 27 = .ok (.aload_n 0, 1) := by decide +kernel
theorem dX10_whyNotSleep_28 : decode cX10_whyNotSleep 28 = .ok (.getfield 72, 3) := by decide +kernel
theorem dX10_whyNotSleep_31 : decode cX10_whyNotSleep 31 = .ok (.iload_n 1, 1) := by decide +kernel
theorem dX10_whyNotSleep_32 : decode cX10_whyNotSleep 32 = .ok (.invokestatic 47, 3) := by decide +kernel
theorem dX10_whyNotSleep_35 : decode cX10_whyNotSleep 35 = .ok (.ifCond .eq 14, 3) := by decide +kernel
theorem dX10_whyNotSleep_38 : decode cX10_whyNotSleep 38 = .ok (.aload_n 0, 1) := by decide +kernel
theorem dX10_whyNotSleep_39 : decode cX10_whyNotSleep 39 = .ok (.getfield 72, 3) := by decide +kernel
theorem dX10_whyNotSleep_42 : decode cX10_whyNotSleep 42 = .ok (.iload_n 2, 1) := by decide +kernel
theorem dX10_whyNotSleep_43 : decode cX10_whyNotSleep 43 = .ok (.invokestatic 47, 3) := by decide +kernel
theorem dX10_whyNotSleep_46 : decode cX10_whyNotSleep 46 = .ok (.ifCond .ne 7, 3) := by decide +kernel
theorem dX10_whyNotSleep_49 : decode cX10_whyNotSleep 49 = .ok (.iconst 3, 1) := by decide +kernel
theorem dX10_whyNotSleep_50 : decode cX10_whyNotSleep 50 = .ok (.goto 4, 3) := by decide +kernel
theorem dX10_whyNotSleep_53 : decode cX10_whyNotSleep 53 = .ok (.iconst 0, 1) := by decide +kernel
theorem dX10_whyNotSleep_54 : decode cX10_whyNotSleep 54 = .ok (.ireturn, 1) := by decide +kernel
theorem dX10_sleep_0 : decode cX10_sleep 0 = .ok (.aload_n 0, 1) := by decide +kernel
theorem dX10_sleep_1 : decode cX10_sleep 1 = .ok (.getfield 30, 3) := by decide +kernel
theorem dX10_sleep_4 : decode cX10_sleep 4 = .ok (.iload_n 2, 1) := by decide +kernel
theorem dX10_sleep_5 : decode cX10_sleep 5 = .ok (.aload_n 0, 1) := by decide +kernel
theorem dX10_sleep_6 : decode cX10_sleep 6 = .ok (.getfield 30, 3) := by decide +kernel
theorem dX10_sleep_9 : decode cX10_sleep 9 = .ok (.iload_n 1, 1) := by decide +kernel
theorem dX10_sleep_10 : decode cX10_sleep 10 = .ok (.iaload, 1) := by decide +kernel
theorem dX10_sleep_11 : decode cX10_sleep 11 = .ok (.aload_n 0, 1) := by decide +kernel
theorem dX10_sleep_12 : decode cX10_sleep 12 = .ok (.getfield 30, 3) := by decide +kernel
theorem dX10_sleep_15 : decode cX10_sleep 15 = .ok (.iload_n 2, 1) := by decide +kernel
theorem dX10_sleep_16 : decode cX10_sleep 16 = .ok (.iaload, 1) := by decide +kernel
theorem dX10_sleep_17 : decode cX10_sleep 17 = .ok (.iadd, 1) := by decide +kernel
theorem dX10_sleep_18 : decode cX10_sleep 18 = .ok (.iconst 2, 1) := by decide +kernel
theorem dX10_sleep_19 : decode cX10_sleep 19 = .ok (.idiv, 1) := by decide +kernel
theorem dX10_sleep_20 : decode cX10_sleep 20 = .ok (.iastore, 1) := by decide +kernel
theorem dX10_sleep_21 : decode cX10_sleep 21 = .ok (.aload_n 0, 1) := by decide +kernel
theorem dX10_sleep_22 : decode cX10_sleep 22 = .ok (.dup, 1) := by decide +kernel
theorem dX10_sleep_23 : decode cX10_sleep 23 = .ok (.getfield 72, 3) := by decide +kernel
theorem dX10_sleep_26 : decode cX10_sleep 26 = .ok (.iconst 1, 1) := by decide +kernel
theorem dX10_sleep_27 : decode cX10_sleep 27 = .ok (.iload_n 1, 1) := by decide +kernel
theorem dX10_sleep_28 : decode cX10_sleep 28 = .ok (.ishl, 1) := by decide +kernel
