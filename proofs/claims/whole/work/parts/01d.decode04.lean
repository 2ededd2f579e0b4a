theorem dX10_sleep_29 : decode cX10_sleep 29 = .ok (.iconst (-1), 1) := by decide +kernel
theorem dX10_sleep_30 : decode cX10_sleep 30 = .ok (.ixor, 1) := by decide +kernel
theorem dX10_sleep_31 : decode cX10_sleep 31 = .ok (.iand, 1) := by decide +kernel
theorem dX10_sleep_32 : decode cX10_sleep 32 = .ok (.putfield 72, 3) := by decide +kernel
theorem dX10_sleep_35 : decode cX10_sleep 35 = .ok (.return_, 1) := by decide +kernel
set_option maxRecDepth 20000 in
theorem ggX10_whyNot_X10_isThere : GoodIn wsX10_whyNot wsX10_isThere := goodIn_r _ [6, 7, 8, 9, 5, 10, 11, 12, 13, 14, 15, 16, 17, 18, 19, 20, 21, 22, 23, 24, 25, 26, 27, 28, 29, 30, 31, 32] (by decide +kernel) (by decide +kernel)
set_option maxRecDepth 20000 in
theorem gX10_whyNot_X10_isThere : GoodIn wsX10_whyNot (wsV RX10 51 RX10 yX10_isThere wsX10_isThere) := goodIn_app (goodIn_of _ (by decide +kernel)) ggX10_whyNot_X10_isThere
set_option maxRecDepth 20000 in
theorem ggX10_whyNot_X10_has : GoodIn wsX10_whyNot wsX10_has := goodIn_r _ [13] (by decide +kernel) (by decide +kernel)
set_option maxRecDepth 20000 in
theorem gX10_whyNot_X10_has : GoodIn wsX10_whyNot (va_wsS RX10 47 yX10_has wsX10_has) := goodIn_app (goodIn_of _ (by decide +kernel)) ggX10_whyNot_X10_has
theorem dX10_whyNot_0 : decode cX10_whyNot 0 = .ok (.aload_n 0, 1) := by decide +kernel
theorem dX10_whyNot_1 : decode cX10_whyNot 1 = .ok (.iload_n 1, 1) := by decide +kernel
theorem dX10_whyNot_2 : decode cX10_whyNot 2 = .ok (.invokevirtual 51, 3) := by decide +kernel
theorem dX10_whyNot_5 : decode cX10_whyNot 5 = .ok (.ifCond .ne 5, 3) := by decide +kernel
theorem dX10_whyNot_8 : decode cX10_whyNot 8 = .ok (.iconst 1, 1) := by decide +kernel
theorem dX10_whyNot_9 : decode cX10_whyNot 9 = .ok (.ireturn, 1) := by decide +kernel
theorem dX10_whyNot_10 : decode cX10_whyNot 10 = .ok (.iload_n 2, 1) := by decide +kernel
theorem dX10_whyNot_11 : decode cX10_whyNot 11 = .ok (.bipush 119, 2) := by decide +kernel
theorem dX10_whyNot_13 : decode cX10_whyNot 13 = .ok (.if_icmp .ne 22, 3) := by decide +kernel
theorem dX10_whyNot_16 : decode cX10_whyNot 16 = .ok (.aload_n 0, 1) := by decide +kernel
theorem dX10_whyNot_17 : decode cX10_whyNot 17 = .ok (.getfield 72, 3) := by decide +kernel
theorem dX10_whyNot_20 : decode cX10_whyNot 20 = .ok (.iload_n 1, 1) := by decide +kernel
theorem dX10_whyNot_21 : decode cX10_whyNot 21 = .ok (.invokestatic 47, 3) := by decide +kernel
theorem dX10_whyNot_24 : decode cX10_whyNot 24 = .ok (.ifCond .eq 7, 3) := by decide +kernel
theorem dX10_whyNot_27 : decode cX10_whyNot 27 = .ok (.iconst 4, 1) := by decide +kernel
theorem dX10_whyNot_28 : decode cX10_whyNot 28 = .ok (.goto 23, 3) := by decide +kernel
theorem dX10_whyNot_31 : decode cX10_whyNot 31 = .ok (.iconst 0, 1) := by decide +kernel
theorem dX10_whyNot_32 : decode cX10_whyNot 32 = .ok (.goto 19, 3) := by decide +kernel
theorem dX10_whyNot_35 : decode cX10_whyNot 35 = .ok (.aload_n 0, 1) := by decide +kernel
theorem dX10_whyNot_36 : decode cX10_whyNot 36 = .ok (.getfield 72, 3) := by decide +kernel
theorem dX10_whyNot_39 : decode cX10_whyNot 39 = .ok (.iload_n 1, 1) := by decide +kernel
theorem dX10_whyNot_40 : decode cX10_whyNot 40 = .ok (.invokestatic 47, 3) := by decide +kernel
theorem dX10_whyNot_43 : decode cX10_whyNot 43 = .ok (.ifCond .eq 7, 3) := by decide +kernel
theorem dX10_whyNot_46 : decode cX10_whyNot 46 = .ok (.iconst 0, 1) := by decide +kernel
theorem dX10_whyNot_47 : decode cX10_whyNot 47 = .ok (.goto 4, 3) := by decide +kernel
theorem dX10_whyNot_50 : decode cX10_whyNot 50 = .ok (.iconst 3, 1) := by decide +kernel
theorem dX10_whyNot_51 : decode cX10_whyNot 51 = .ok (.ireturn, 1) := by decide +kernel
set_option maxRecDepth 20000 in
theorem ggX10_act_X10_more : GoodIn wsX10_act wsX10_more := goodIn_r _ [7, 2, 8, 17, 18, 19, 20, 21, 22, 23, 24, 25, 26, 27, 28, 29, 30, 31, 32, 33, 34, 35] (by decide +kernel) (by decide +kernel)
set_option maxRecDepth 20000 in
theorem gX10_act_X10_more : GoodIn wsX10_act (wsV RX10 76 RX10 yX10_more wsX10_more) := goodIn_app (goodIn_of _ (by decide +kernel)) ggX10_act_X10_more
set_option maxRecDepth 20000 in
theorem ggX10_act_X10_common : GoodIn wsX10_act wsX10_common := goodIn_r _ [12, 13, 1, 2, 14, 15, 6, 16, 17, 18, 19, 20, 21, 22, 23, 24, 25, 26, 27, 28, 29, 30, 31, 32, 33, 34, 35] (by decide +kernel) (by decide +kernel)
set_option maxRecDepth 20000 in
theorem gX10_act_X10_common : GoodIn wsX10_act (wsV RX10 80 RX10 yX10_common wsX10_common) := goodIn_app (goodIn_of _ (by decide +kernel)) ggX10_act_X10_common
theorem dX10_act_0 : decode cX10_act 0 = .ok (.iload_n 2, 1) := by decide +kernel
theorem dX10_act_1 : decode cX10_act 1 = .ok (.bipush 119, 2) := by decide +kernel
theorem dX10_act_3 : decode cX10_act 3 = .ok (.if_icmp .ne 18, 3) := by decide +kernel
theorem dX10_act_6 : decode cX10_act 6 = .ok (.aload_n 0, 1) := by decide +kernel
theorem dX10_act_7 : decode cX10_act 7 = .ok (.dup, 1) := by decide +kernel
theorem dX10_act_8 : decode cX10_act 8 = .ok (.getfield 72, 3) := by decide +kernel
theorem dX10_act_11 : decode cX10_act 11 = .ok (.iconst 1, 1) := by decide +kernel
theorem dX10_act_12 : decode cX10_act 12 = .ok (.iload_n 1, 1) := by decide +kernel
theorem dX10_act_13 : decode cX10_act 13 = .ok (.ishl, 1) := by decide +kernel
theorem dX10_act_14 : decode cX10_act 14 = .ok (.ior, 1) := by decide +kernel
theorem dX10_act_15 : decode cX10_act 15 = .ok (.putfield 72, 3) := by decide +kernel
theorem dX10_act_18 : decode cX10_act 18 = .ok (.goto 28, 3) := by decide +kernel
theorem dX10_act_21 : decode cX10_act 21 = .ok (.iload_n 2, 1) := by decide +kernel
theorem dX10_act_22 : decode cX10_act 22 = .ok (.bipush 107, 2) := by decide +kernel
theorem dX10_act_24 : decode cX10_act 24 = .ok (.if_icmp .ne 12, 3) := by decide +kernel
theorem dX10_act_27 : decode cX10_act 27 = .ok (.aload_n 0, 1) := by decide +kernel
theorem dX10_act_28 : decode cX10_act 28 = .ok (.iload_n 1, 1) := by decide +kernel
theorem dX10_act_29 : decode cX10_act 29 = .ok (.iconst 3, 1) := by decide +kernel
theorem dX10_act_30 : decode cX10_act 30 = .ok (.invokevirtual 76, 3) := by decide +kernel
theorem dX10_act_33 : decode cX10_act 33 = .ok (.goto 13, 3) := by decide +kernel
theorem dX10_act_36 : decode cX10_act 36 = .ok (.aload_n 0, 1) := by decide +kernel
theorem dX10_act_37 : decode cX10_act 37 = .ok (.getfield 30, 3) := by decide +kernel
theorem dX10_act_40 : decode cX10_act 40 = .ok (.iload_n 1, 1) := by decide +kernel
theorem dX10_act_41 : decode cX10_act 41 = .ok (.aload_n 0, 1) := by decide +kernel
theorem dX10_act_42 : decode cX10_act 42 = .ok (.invokevirtual 80, 3) := by decide +kernel
theorem dX10_act_45 : decode cX10_act 45 = .ok (.iastore, 1) := by decide +kernel
theorem dX10_act_46 : decode cX10_act 46 = .ok (.return_, 1) := by decide +kernel
set_option maxRecDepth 20000 in
theorem ggX10_bell_X10_has : GoodIn wsX10_bell wsX10_has := goodIn_r _ [5] (by decide +kernel) (by decide +kernel)
set_option maxRecDepth 20000 in
theorem gX10_bell_X10_has : GoodIn wsX10_bell (va_wsS RX10 47 yX10_has wsX10_has) := goodIn_app (goodIn_of _ (by decide +kernel)) ggX10_bell_X10_has
set_option maxRecDepth 20000 in
theorem ggX10_bell_X10_more : GoodIn wsX10_bell wsX10_more := goodIn_r _ [9, 10, 11, 12, 13, 14, 15, 16, 17, 18, 19, 20, 21, 22, 23, 24, 25, 26, 27, 28, 29, 30] (by decide +kernel) (by decide +kernel)
set_option maxRecDepth 20000 in
theorem gX10_bell_X10_more : GoodIn wsX10_bell (wsV RX10 76 RX10 yX10_more wsX10_more) := goodIn_app (goodIn_of _ (by decide +kernel)) ggX10_bell_X10_more
theorem dX10_bell_0 : decode cX10_bell 0 = .ok (.iconst 0, 1) := by decide +kernel
theorem dX10_bell_1 : decode cX10_bell 1 = .ok (.istore_n 1, 1) := by decide +kernel
theorem dX10_bell_2 : decode cX10_bell 2 = .ok (.iload_n 1, 1) := by decide +kernel
theorem dX10_bell_3 : decode cX10_bell 3 = .ok (.bipush 8, 2) := by decide +kernel
theorem dX10_bell_5 : decode cX10_bell 5 = .ok (.if_icmp .ge 26, 3) := by decide +kernel
theorem dX10_bell_8 : decode cX10_bell 8 = .ok (.aload_n 0, 1) := by decide +kernel
theorem dX10_bell_9 : decode cX10_bell 9 = .ok (.getfield 72, 3) := by decide +kernel
theorem dX10_bell_12 : decode cX10_bell 12 = .ok (.iload_n 1, 1) := by decide +kernel
theorem dX10_bell_13 : decode cX10_bell 13 = .ok (.invokestatic 47, 3) := by decide +kernel
theorem dX10_bell_16 : decode cX10_bell 16 = .ok (.ifCond .eq 9, 3) := by decide +kernel
theorem dX10_bell_19 : decode cX10_bell 19 = .ok (.aload_n 0, 1) := by decide +kernel
theorem dX10_bell_20 : decode cX10_bell 20 = .ok (.iload_n 1, 1) := by decide +kernel
theorem dX10_bell_21 : decode cX10_bell 21 = .ok (.iconst 1, 1) := by decide +kernel
theorem dX10_bell_22 : decode cX10_bell 22 = .ok (.invokevirtual 76, 3) := by decide +kernel
theorem dX10_bell_25 : decode cX10_bell 25 = .ok (.iinc 1 1, 3) := by decide +kernel
theorem dX10_bell_28 : decode cX10_bell 28 = .ok (.goto (-26), 3) := by decide +kernel
theorem dX10_bell_31 : decode cX10_bell 31 = .ok (.return_, 1) := by decide +kernel
set_option maxRecDepth 20000 in
theorem ggX10_goHours_X10_asNow : GoodIn wsX10_goHours wsX10_asNow := goodIn_r _ [16, 17, 8, 9, 18, 79, 80, 81, 82, 83, 84, 85, 86, 87, 88, 89, 90, 91, 92, 93, 94, 95, 96, 97] (by decide +kernel) (by decide +kernel)
set_option maxRecDepth 20000 in
theorem gX10_goHours_X10_asNow : GoodIn wsX10_goHours (wsV RX10 83 RX10 yX10_asNow wsX10_asNow) := goodIn_app (goodIn_of _ (by decide +kernel)) ggX10_goHours_X10_asNow
set_option maxRecDepth 20000 in
theorem ggX10_goHours_X10_isZero : GoodIn wsX10_goHours wsX10_isZero := goodIn_r _ [22, 23, 9, 24, 25, 15, 26, 79, 80, 81, 82, 83, 84, 85, 86, 87, 88, 89, 90, 91, 92, 93, 94, 95, 96, 97] (by decide +kernel) (by decide +kernel)
set_option maxRecDepth 20000 in
theorem gX10_goHours_X10_isZero : GoodIn wsX10_goHours (wsV RX10 92 RX10 yX10_isZero wsX10_isZero) := goodIn_app (goodIn_of _ (by decide +kernel)) ggX10_goHours_X10_isZero
set_option maxRecDepth 20000 in
theorem ggX10_goHours_X10_isMonk : GoodIn wsX10_goHours wsX10_isMonk := goodIn_r _ [29, 30, 31, 15, 32] (by decide +kernel) (by decide +kernel)
set_option maxRecDepth 20000 in
theorem gX10_goHours_X10_isMonk : GoodIn wsX10_goHours (va_wsS RX10 65 yX10_isMonk wsX10_isMonk) := goodIn_app (goodIn_of _ (by decide +kernel)) ggX10_goHours_X10_isMonk
set_option maxRecDepth 20000 in
theorem ggX10_goHours_X10_whyNotSleep : GoodIn wsX10_goHours wsX10_whyNotSleep := goodIn_r _ [36, 8, 37, 38, 39, 15, 40, 23, 30, 31, 32, 24, 25, 26, 79, 80, 81, 82, 83, 84, 85, 86, 87, 88, 89, 90, 91, 92, 93, 94, 95, 96, 97] (by decide +kernel) (by decide +kernel)
set_option maxRecDepth 20000 in
theorem gX10_goHours_X10_whyNotSleep : GoodIn wsX10_goHours (wsV RX10 105 RX10 yX10_whyNotSleep wsX10_whyNotSleep) := goodIn_app (goodIn_of _ (by decide +kernel)) ggX10_goHours_X10_whyNotSleep
set_option maxRecDepth 20000 in
theorem ggX10_goHours_X10_whyNot : GoodIn wsX10_goHours wsX10_whyNot := goodIn_r _ [44, 8, 37, 38, 39, 15, 40, 23, 30, 31, 32, 24, 25, 26, 79, 80, 81, 82, 83, 84, 85, 86, 87, 88, 89, 90, 91, 92, 93, 94, 95, 96, 97] (by decide +kernel) (by decide +kernel)
set_option maxRecDepth 20000 in
theorem gX10_goHours_X10_whyNot : GoodIn wsX10_goHours (wsV RX10 109 RX10 yX10_whyNot wsX10_whyNot) := goodIn_app (goodIn_of _ (by decide +kernel)) ggX10_goHours_X10_whyNot
set_option maxRecDepth 20000 in
theorem ggX10_goHours_X10_sleep : GoodIn wsX10_goHours wsX10_sleep := goodIn_r _ [48, 9, 8, 79, 80, 81, 82, 83, 84, 85, 86, 87, 88, 89, 90, 91, 92, 93, 94, 95, 96, 97] (by decide +kernel) (by decide +kernel)
set_option maxRecDepth 20000 in
theorem gX10_goHours_X10_sleep : GoodIn wsX10_goHours (wsV RX10 112 RX10 yX10_sleep wsX10_sleep) := goodIn_app (goodIn_of _ (by decide +kernel)) ggX10_goHours_X10_sleep
set_option maxRecDepth 20000 in
theorem ggX10_goHours_X10_act : GoodIn wsX10_goHours wsX10_act := goodIn_r _ [52, 8, 9, 53, 54, 55, 15, 56, 10, 57, 58, 59, 60, 61, 24, 25, 26, 79, 80, 81, 82, 83, 84, 85, 86, 87, 88, 89, 90, 91, 92, 93, 94, 95, 96, 97] (by decide +kernel) (by decide +kernel)
set_option maxRecDepth 20000 in
theorem gX10_goHours_X10_act : GoodIn wsX10_goHours (wsV RX10 115 RX10 yX10_act wsX10_act) := goodIn_app (goodIn_of _ (by decide +kernel)) ggX10_goHours_X10_act
set_option maxRecDepth 20000 in
theorem ggX10_goHours_X10_breath : GoodIn wsX10_goHours wsX10_breath := goodIn_r _ [65, 8, 9, 66, 24, 25, 15, 26, 79, 80, 81, 82, 83, 84, 85, 86, 87, 88, 89, 90, 91, 92, 93, 94, 95, 96, 97] (by decide +kernel) (by decide +kernel)
set_option maxRecDepth 20000 in
theorem gX10_goHours_X10_breath : GoodIn wsX10_goHours (wsV RX10 118 RX10 yX10_breath wsX10_breath) := goodIn_app (goodIn_of _ (by decide +kernel)) ggX10_goHours_X10_breath
set_option maxRecDepth 20000 in
theorem ggX10_goHours_X10_bell : GoodIn wsX10_goHours wsX10_bell := goodIn_r _ [70, 8, 24, 25, 15, 26, 53, 54, 55, 56, 9, 10, 79, 80, 81, 82, 83, 84, 85, 86, 87, 88, 89, 90, 91, 92, 93, 94, 95, 96, 97] (by decide +kernel) (by decide +kernel)
set_option maxRecDepth 20000 in
theorem gX10_goHours_X10_bell : GoodIn wsX10_goHours (wsV RX10 121 RX10 yX10_bell wsX10_bell) := goodIn_app (goodIn_of _ (by decide +kernel)) ggX10_goHours_X10_bell
set_option maxRecDepth 20000 in
theorem ggX10_goHours_X10_first : GoodIn wsX10_goHours wsX10_first := goodIn_r _ [74, 8, 9, 24, 25, 15, 26, 79, 80, 81, 82, 83, 84, 85, 86, 87, 88, 89, 90, 91, 92, 93, 94, 95, 96, 97] (by decide +kernel) (by decide +kernel)
set_option maxRecDepth 20000 in
theorem gX10_goHours_X10_first : GoodIn wsX10_goHours (wsV RX10 124 RX10 yX10_first wsX10_first) := goodIn_app (goodIn_of _ (by decide +kernel)) ggX10_goHours_X10_first
set_option maxRecDepth 20000 in
theorem ggX10_goHours_X10_spread : GoodIn wsX10_goHours wsX10_spread := goodIn_r _ [78, 61, 8, 9, 24, 25, 15, 26, 79, 80, 81, 82, 83, 84, 85, 86, 87, 88, 89, 90, 91, 92, 93, 94, 95, 96, 97] (by decide +kernel) (by decide +kernel)
set_option maxRecDepth 20000 in
theorem gX10_goHours_X10_spread : GoodIn wsX10_goHours (wsV RX10 127 RX10 yX10_spread wsX10_spread) := goodIn_app (goodIn_of _ (by decide +kernel)) ggX10_goHours_X10_spread
theorem dX10_goHours_0 : decode cX10_goHours 0 = .ok (.aload_n 0, 1) := by decide +kernel
theorem dX10_goHours_1 : decode cX10_goHours 1 = .ok (.invokevirtual 83, 3) := by decide +kernel
theorem dX10_goHours_4 : decode cX10_goHours 4 = .ok (.aload_n 0, 1) := by decide +kernel
theorem dX10_goHours_5 : decode cX10_goHours 5 = .ok (.iconst 0, 1) := by decide +kernel
theorem dX10_goHours_6 : decode cX10_goHours 6 = .ok (.putfield 86, 3) := by decide +kernel
theorem dX10_goHours_9 : decode cX10_goHours 9 = .ok (.aload_n 0, 1) := by decide +kernel
theorem dX10_goHours_10 : decode cX10_goHours 10 = .ok (.iconst 0, 1) := by decide +kernel
theorem dX10_goHours_11 : decode cX10_goHours 11 = .ok (.putfield 89, 3) := by decide +kernel
theorem dX10_goHours_14 : decode cX10_goHours 14 = .ok (.aload_n 0, 1) := by decide +kernel
theorem dX10_goHours_15 : decode cX10_goHours 15 = .ok (.aload_n 0, 1) := by decide +kernel
theorem dX10_goHours_16 : decode cX10_goHours 16 = .ok (.invokevirtual 92, 3) := by decide +kernel
theorem dX10_goHours_19 : decode cX10_goHours 19 = .ok (.ifCond .eq 7, 3) := by decide +kernel
theorem dX10_goHours_22 : decode cX10_goHours 22 = .ok (.iconst 0, 1) := by decide +kernel
theorem dX10_goHours_23 : decode cX10_goHours 23 = .ok (.goto 5, 3) := by decide +kernel
theorem dX10_goHours_26 : decode cX10_goHours 26 = .ok (.bipush (-6), 2) := by decide +kernel
theorem dX10_goHours_28 : decode cX10_goHours 28 = .ok (.putfield 96, 3) := by decide +kernel
theorem dX10_goHours_31 : decode cX10_goHours 31 = .ok (.aload_n 0, 1) := by decide +kernel
theorem dX10_goHours_32 : decode cX10_goHours 32 = .ok (.bipush (-6), 2) := by decide +kernel
theorem dX10_goHours_34 : decode cX10_goHours 34 = .ok (.putfield 99, 3) := by decide +kernel
theorem dX10_goHours_37 : decode cX10_goHours 37 = .ok (.iconst 0, 1) := by decide +kernel
theorem dX10_goHours_38 : decode cX10_goHours 38 = .ok (.istore_n 1, 1) := by decide +kernel
theorem dX10_goHours_39 : decode cX10_goHours 39 = .ok (.iload_n 1, 1) := by decide +kernel
theorem dX10_goHours_40 : decode cX10_goHours 40 = .ok (.aload_n 0, 1) := by decide +kernel
theorem dX10_goHours_41 : decode cX10_goHours 41 = .ok (.getfield 62, 3) := by decide +kernel
theorem dX10_goHours_44 : decode cX10_goHours 44 = .ok (.if_icmp .ge 332, 3) := by decide +kernel
theorem dX10_goHours_47 : decode cX10_goHours 47 = .ok (.aload_n 0, 1) := by decide +kernel
theorem dX10_goHours_48 : decode cX10_goHours 48 = .ok (.getfield 27, 3) := by decide +kernel
theorem dX10_goHours_51 : decode cX10_goHours 51 = .ok (.iload_n 1, 1) := by decide +kernel
theorem dX10_goHours_52 : decode cX10_goHours 52 = .ok (.iaload, 1) := by decide +kernel
theorem dX10_goHours_53 : decode cX10_goHours 53 = .ok (.istore_n 2, 1) := by decide +kernel
theorem dX10_goHours_54 : decode cX10_goHours 54 = .ok (.aload_n 0, 1) := by decide +kernel
theorem dX10_goHours_55 : decode cX10_goHours 55 = .ok (.iconst 0, 1) := by decide +kernel
theorem dX10_goHours_56 : decode cX10_goHours 56 = .ok (.putfield 102, 3) := by decide +kernel
theorem dX10_goHours_59 : decode cX10_goHours 59 = .ok (.iload_n 2, 1) := by decide +kernel
theorem dX10_goHours_60 : decode cX10_goHours 60 = .ok (.invokestatic 65, 3) := by decide +kernel
theorem dX10_goHours_63 : decode cX10_goHours 63 = .ok (.ifCond .eq 98, 3) := by decide +kernel
theorem dX10_goHours_66 : decode cX10_goHours 66 = .ok (.iload_n 2, 1) := by decide +kernel
theorem dX10_goHours_67 : decode cX10_goHours 67 = .ok (.bipush 65, 2) := by decide +kernel
theorem dX10_goHours_69 : decode cX10_goHours 69 = .ok (.isub, 1) := by decide +kernel
theorem dX10_goHours_70 : decode cX10_goHours 70 = .ok (.istore_n 3, 1) := by decide +kernel
theorem dX10_goHours_71 : decode cX10_goHours 71 = .ok (.aload_n 0, 1) := by decide +kernel
theorem dX10_goHours_72 : decode cX10_goHours 72 = .ok (.getfield 27, 3) := by decide +kernel
theorem dX10_goHours_75 : decode cX10_goHours 75 = .ok (.iload_n 1, 1) := by decide +kernel
theorem dX10_goHours_76 : decode cX10_goHours 76 = .ok (.iconst 1, 1) := by decide +kernel
theorem dX10_goHours_77 : decode cX10_goHours 77 = .ok (.iadd, 1) := by decide +kernel
theorem dX10_goHours_78 : decode cX10_goHours 78 = .ok (.iaload, 1) := by decide +kernel
theorem dX10_goHours_79 : decode cX10_goHours 79 = .ok (.istore 4, 2) := by decide +kernel
theorem dX10_goHours_81 : decode cX10_goHours 81 = .ok (.aload_n 0, 1) := by decide +kernel
theorem dX10_goHours_82 : decode cX10_goHours 82 = .ok (.iload 4, 2) := by decide +kernel
theorem dX10_goHours_84 : decode cX10_goHours 84 = .ok (.invokestatic 65, 3) := by decide +kernel
theorem dX10_goHours_87 : decode cX10_goHours 87 = .ok (.ifCond .eq 16, 3) := by decide +kernel
theorem dX10_goHours_90 : decode cX10_goHours 90 = .ok (.aload_n 0, 1) := by decide +kernel
theorem dX10_goHours_91 : decode cX10_goHours 91 = .ok (.iload_n 3, 1) := by decide +kernel
theorem dX10_goHours_92 : decode cX10_goHours 92 = .ok (.iload 4, 2) := by decide +kernel
theorem dX10_goHours_94 : decode cX10_goHours 94 = .ok (.bipush 65, 2) := by decide +kernel
theorem dX10_goHours_96 : decode cX10_goHours 96 = .ok (.isub, 1) := by decide +kernel
theorem dX10_goHours_97 : decode cX10_goHours 97 = .ok (.invokevirtual 105, 3) := by decide +kernel
theorem dX10_goHours_100 : decode cX10_goHours 100 = .ok (.goto 10, 3) := by decide +kernel
theorem dX10_goHours_103 : decode cX10_goHours 103 = .ok (.aload_n 0, 1) := by decide +kernel
theorem dX10_goHours_104 : decode cX10_goHours 104 = .ok (.iload_n 3, 1) := by decide +kernel
theorem dX10_goHours_105 : decode cX10_goHours 105 = .ok (.iload 4, 2) := by decide +kernel
theorem dX10_goHours_107 : decode cX10_goHours 107 = .ok (.invokevirtual 109, 3) := by decide +kernel
theorem dX10_goHours_110 : decode cX10_goHours 110 = .ok (.putfield 102, 3) := by decide +kernel
theorem dX10_goHours_113 : decode cX10_goHours 113 = .ok (.aload_n 0, 1) := by decide +kernel
theorem dX10_goHours_114 : decode cX10_goHours 114 = .ok (.getfield 102, 3) := by decide +kernel
theorem dX10_goHours_117 : decode cX10_goHours 117 = .ok (.ifCond .ne 24, 3) := by decide +kernel
theorem dX10_goHours_120 : decode cX10_goHours 120 = .ok (.iload 4, 2) := by decide +kernel
theorem dX10_goHours_122 : decode cX10_goHours 122 = .ok (.invokestatic 65, 3) := by decide +kernel
theorem dX10_goHours_125 : decode cX10_goHours 125 = .ok (.ifCond .eq 16, 3) := by decide +kernel
theorem dX10_goHours_128 : decode cX10_goHours 128 = .ok (.aload_n 0, 1) := by decide +kernel
theorem dX10_goHours_129 : decode cX10_goHours 129 = .ok (.iload_n 3, 1) := by decide +kernel
theorem dX10_goHours_130 : decode cX10_goHours 130 = .ok (.iload 4, 2) := by decide +kernel
theorem dX10_goHours_132 : decode cX10_goHours 132 = .ok (.bipush 65, 2) := by decide +kernel
theorem dX10_goHours_134 : decode cX10_goHours 134 = .ok (.isub, 1) := by decide +kernel
theorem dX10_goHours_135 : decode cX10_goHours 135 = .ok (.invokevirtual 112, 3) := by decide +kernel
theorem dX10_goHours_138 : decode cX10_goHours 138 = .ok (.goto 17, 3) := by decide +kernel
theorem dX10_goHours_141 : decode cX10_goHours 141 = .ok (.aload_n 0, 1) := by decide +kernel
theorem dX10_goHours_142 : decode cX10_goHours 142 = .ok (.getfield 102, 3) := by decide +kernel
theorem dX10_goHours_145 : decode cX10_goHours 145 = .ok (.ifCond .ne 10, 3) := by decide +kernel
theorem dX10_goHours_148 : decode cX10_goHours 148 = .ok (.aload_n 0, 1) := by decide +kernel
theorem dX10_goHours_149 : decode cX10_goHours 149 = .ok (.iload_n 3, 1) := by decide +kernel
theorem dX10_goHours_150 : decode cX10_goHours 150 = .ok (.iload 4, 2) := by decide +kernel
theorem dX10_goHours_152 : decode cX10_goHours 152 = .ok (.invokevirtual 115, 3) := by decide +kernel
theorem dX10_goHours_155 : decode cX10_goHours 155 = .ok (.iinc 1 2, 3) := by decide +kernel
theorem dX10_goHours_158 : decode cX10_goHours 158 = .ok (.goto 160, 3) := by decide +kernel
theorem dX10_goHours_161 : decode cX10_goHours 161 = .ok (.aload_n 0, 1) := by decide +kernel
theorem dX10_goHours_162 : decode cX10_goHours 162 = .ok (.aload_n 0, 1) := by decide +kernel
theorem dX10_goHours_163 : decode cX10_goHours 163 = .ok (.getfield 72, 3) := by decide +kernel
theorem dX10_goHours_166 : decode cX10_goHours 166 = .ok (.ifCond .ne 7, 3) := by decide +kernel
theorem dX10_goHours_169 : decode cX10_goHours 169 = .ok (.iconst 5, 1) := by decide +kernel
theorem dX10_goHours_170 : decode cX10_goHours 170 = .ok (.goto 4, 3) := by decide +kernel
theorem dX10_goHours_173 : decode cX10_goHours 173 = .ok (.iconst 0, 1) := by decide +kernel
theorem dX10_goHours_174 : decode cX10_goHours 174 = .ok (.putfield 102, 3) := by decide +kernel
theorem dX10_goHours_177 : decode cX10_goHours 177 = .ok (.aload_n 0, 1) := by decide +kernel
theorem dX10_goHours_178 : decode cX10_goHours 178 = .ok (.getfield 102, 3) := by decide +kernel
theorem dX10_goHours_181 : decode cX10_goHours 181 = .ok (.ifCond .le 7, 3) := by decide +kernel
theorem dX10_goHours_184 : decode cX10_goHours 184 = .ok (.iconst 0, 1) := by decide +kernel
theorem dX10_goHours_185 : decode cX10_goHours 185 = .ok (.goto 25, 3) := by decide +kernel
theorem dX10_goHours_188 : decode cX10_goHours 188 = .ok (.iload_n 2, 1) := by decide +kernel
theorem dX10_goHours_189 : decode cX10_goHours 189 = .ok (.bipush 46, 2) := by decide +kernel
theorem dX10_goHours_191 : decode cX10_goHours 191 = .ok (.if_icmp .ne 7, 3) := by decide +kernel
theorem dX10_goHours_194 : decode cX10_goHours 194 = .ok (.iconst 1, 1) := by decide +kernel
theorem dX10_goHours_195 : decode cX10_goHours 195 = .ok (.goto 15, 3) := by decide +kernel
theorem dX10_goHours_198 : decode cX10_goHours 198 = .ok (.iload_n 2, 1) := by decide +kernel
theorem dX10_goHours_199 : decode cX10_goHours 199 = .ok (.bipush 58, 2) := by decide +kernel
theorem dX10_goHours_201 : decode cX10_goHours 201 = .ok (.if_icmp .ne 8, 3) := by decide +kernel
theorem dX10_goHours_204 : decode cX10_goHours 204 = .ok (.bipush 10, 2) := by decide +kernel
theorem dX10_goHours_206 : decode cX10_goHours 206 = .ok (.goto 4, 3) := by decide +kernel
theorem dX10_goHours_209 : decode cX10_goHours 209 = .ok (.iconst 0, 1) := by decide +kernel
theorem dX10_goHours_210 : decode cX10_goHours 210 = .ok (.istore_n 3, 1) := by decide +kernel
theorem dX10_goHours_211 : decode cX10_goHours 211 = .ok (.iconst 0, 1) := by decide +kernel
theorem dX10_goHours_212 : decode cX10_goHours 212 = .ok (.istore 4, 2) := by decide +kernel
theorem dX10_goHours_214 : decode cX10_goHours 214 = .ok (.iload 4, 2) := by decide +kernel
theorem dX10_goHours_216 : decode cX10_goHours 216 = .ok (.iload_n 3, 1) := by decide +kernel
theorem dX10_goHours_217 : decode cX10_goHours 217 = .ok (.if_icmp .ge 52, 3) := by decide +kernel
theorem dX10_goHours_220 : decode cX10_goHours 220 = .ok (.aload_n 0, 1) := by decide +kernel
theorem dX10_goHours_221 : decode cX10_goHours 221 = .ok (.invokevirtual 118, 3) := by decide +kernel
theorem dX10_goHours_224 : decode cX10_goHours 224 = .ok (.aload_n 0, 1) := by decide +kernel
theorem dX10_goHours_225 : decode cX10_goHours 225 = .ok (.dup, 1) := by decide +kernel
theorem dX10_goHours_226 : decode cX10_goHours 226 = .ok (.getfield 89, 3) := by decide +kernel
theorem dX10_goHours_229 : decode cX10_goHours 229 = .ok (.iconst 1, 1) := by decide +kernel
theorem dX10_goHours_230 : decode cX10_goHours 230 = .ok (.iadd, 1) := by decide +kernel
theorem dX10_goHours_231 : decode cX10_goHours 231 = .ok (.putfield 89, 3) := by decide +kernel
theorem dX10_goHours_234 : decode cX10_goHours 234 = .ok (.aload_n 0, 1) := by decide +kernel
theorem dX10_goHours_235 : decode cX10_goHours 235 = .ok (.aload_n 0, 1) := by decide +kernel
theorem dX10_goHours_236 : decode cX10_goHours 236 = .ok (.getfield 96, 3) := by decide +kernel
theorem dX10_goHours_239 : decode cX10_goHours 239 = .ok (.ifCond .ge 17, 3) := by decide +kernel
theorem dX10_goHours_242 : decode cX10_goHours 242 = .ok (.aload_n 0, 1) := by decide +kernel
theorem dX10_goHours_243 : decode cX10_goHours 243 = .ok (.invokevirtual 92, 3) := by decide +kernel
theorem dX10_goHours_246 : decode cX10_goHours 246 = .ok (.ifCond .eq 10, 3) := by decide +kernel
theorem dX10_goHours_249 : decode cX10_goHours 249 = .ok (.aload_n 0, 1) := by decide +kernel
theorem dX10_goHours_250 : decode cX10_goHours 250 = .ok (.getfield 89, 3) := by decide +kernel
theorem dX10_goHours_253 : decode cX10_goHours 253 = .ok (.goto 7, 3) := by decide +kernel
theorem dX10_goHours_256 : decode cX10_goHours 256 = .ok (.aload_n 0, 1) := by decide +kernel
theorem dX10_goHours_257 : decode cX10_goHours 257 = .ok (.getfield 96, 3) := by decide +kernel
theorem dX10_goHours_260 : decode cX10_goHours 260 = .ok (.putfield 96, 3) := by decide +kernel
theorem dX10_goHours_263 : decode cX10_goHours 263 = .ok (.iinc 4 1, 3) := by decide +kernel
theorem dX10_goHours_266 : decode cX10_goHours 266 = .ok (.goto (-52), 3) := by decide +kernel
theorem dX10_goHours_269 : decode cX10_goHours 269 = .ok (.aload_n 0, 1) := by decide +kernel
theorem dX10_goHours_270 : decode cX10_goHours 270 = .ok (.getfield 102, 3) := by decide +kernel
theorem dX10_goHours_273 : decode cX10_goHours 273 = .ok (.ifCond .ne 16, 3) := by decide +kernel
theorem dX10_goHours_276 : decode cX10_goHours 276 = .ok (.iload_n 2, 1) := by decide +kernel
theorem dX10_goHours_277 : decode cX10_goHours 277 = .ok (.bipush 33, 2) := by decide +kernel
theorem dX10_goHours_279 : decode cX10_goHours 279 = .ok (.if_icmp .ne 10, 3) := by decide +kernel
theorem dX10_goHours_282 : decode cX10_goHours 282 = .ok (.aload_n 0, 1) := by decide +kernel
theorem dX10_goHours_283 : decode cX10_goHours 283 = .ok (.invokevirtual 121, 3) := by decide +kernel
theorem dX10_goHours_286 : decode cX10_goHours 286 = .ok (.goto 29, 3) := by decide +kernel
theorem dX10_goHours_289 : decode cX10_goHours 289 = .ok (.aload_n 0, 1) := by decide +kernel
theorem dX10_goHours_290 : decode cX10_goHours 290 = .ok (.getfield 102, 3) := by decide +kernel
theorem dX10_goHours_293 : decode cX10_goHours 293 = .ok (.ifCond .ne 22, 3) := by decide +kernel
theorem dX10_goHours_296 : decode cX10_goHours 296 = .ok (.iload_n 2, 1) := by decide +kernel
theorem dX10_goHours_297 : decode cX10_goHours 297 = .ok (.bipush 42, 2) := by decide +kernel
theorem dX10_goHours_299 : decode cX10_goHours 299 = .ok (.if_icmp .ne 16, 3) := by decide +kernel
theorem dX10_goHours_302 : decode cX10_goHours 302 = .ok (.aload_n 0, 1) := by decide +kernel
theorem dX10_goHours_303 : decode cX10_goHours 303 = .ok (.getfield 30, 3) := by decide +kernel
theorem dX10_goHours_306 : decode cX10_goHours 306 = .ok (.aload_n 0, 1) := by decide +kernel
theorem dX10_goHours_307 : decode cX10_goHours 307 = .ok (.invokevirtual 124, 3) := by decide +kernel
theorem dX10_goHours_310 : decode cX10_goHours 310 = .ok (.aload_n 0, 1) := by decide +kernel
theorem dX10_goHours_311 : decode cX10_goHours 311 = .ok (.getfield 17, 3) := by decide +kernel
theorem dX10_goHours_314 : decode cX10_goHours 314 = .ok (.iastore, 1) := by decide +kernel
theorem dX10_goHours_315 : decode cX10_goHours 315 = .ok (.iinc 1 1, 3) := by decide +kernel
theorem dX10_goHours_318 : decode cX10_goHours 318 = .ok (.aload_n 0, 1) := by decide +kernel
theorem dX10_goHours_319 : decode cX10_goHours 319 = .ok (.getfield 102, 3) := by decide +kernel
theorem dX10_goHours_322 : decode cX10_goHours 322 = .ok (.ifCond .le 8, 3) := by decide +kernel
theorem dX10_goHours_325 : decode cX10_goHours 325 = .ok (.aload_n 0, 1) := by decide +kernel
theorem dX10_goHours_326 : decode cX10_goHours 326 = .ok (.getfield 86, 3) := by decide +kernel
theorem dX10_goHours_329 : decode cX10_goHours 329 = .ok (.ireturn, 1) := by decide +kernel
theorem dX10_goHours_330 : decode cX10_goHours 330 = .ok (.aload_n 0, 1) := by decide +kernel
theorem dX10_goHours_331 : decode cX10_goHours 331 = .ok (.aload_n 0, 1) := by decide +kernel
theorem dX10_goHours_332 : decode cX10_goHours 332 = .ok (.getfield 99, 3) := by decide +kernel
theorem dX10_goHours_335 : decode cX10_goHours 335 = .ok (.ifCond .ge 21, 3) := by decide +kernel
theorem dX10_goHours_338 : decode cX10_goHours 338 = .ok (.aload_n 0, 1) := by decide +kernel
theorem dX10_goHours_339 : decode cX10_goHours 339 = .ok (.invokevirtual 127, 3) := by decide +kernel
theorem dX10_goHours_342 : decode cX10_goHours 342 = .ok (.aload_n 0, 1) := by decide +kernel
theorem dX10_goHours_343 : decode cX10_goHours 343 = .ok (.getfield 21, 3) := by decide +kernel
theorem dX10_goHours_346 : decode cX10_goHours 346 = .ok (.if_icmp .le 10, 3) := by decide +kernel
theorem dX10_goHours_349 : decode cX10_goHours 349 = .ok (.aload_n 0, 1) := by decide +kernel
theorem dX10_goHours_350 : decode cX10_goHours 350 = .ok (.getfield 86, 3) := by decide +kernel
theorem dX10_goHours_353 : decode cX10_goHours 353 = .ok (.goto 7, 3) := by decide +kernel
theorem dX10_goHours_356 : decode cX10_goHours 356 = .ok (.aload_n 0, 1) := by decide +kernel
theorem dX10_goHours_357 : decode cX10_goHours 357 = .ok (.getfield 99, 3) := by decide +kernel
theorem dX10_goHours_360 : decode cX10_goHours 360 = .ok (.putfield 99, 3) := by decide +kernel
theorem dX10_goHours_363 : decode cX10_goHours 363 = .ok (.aload_n 0, 1) := by decide +kernel
theorem dX10_goHours_364 : decode cX10_goHours 364 = .ok (.dup, 1) := by decide +kernel
theorem dX10_goHours_365 : decode cX10_goHours 365 = .ok (.getfield 86, 3) := by decide +kernel
theorem dX10_goHours_368 : decode cX10_goHours 368 = .ok (.iconst 1, 1) := by decide +kernel
theorem dX10_goHours_369 : decode cX10_goHours 369 = .ok (.iadd, 1) := by decide +kernel
theorem dX10_goHours_370 : decode cX10_goHours 370 = .ok (.putfield 86, 3) := by decide +kernel
theorem dX10_goHours_373 : decode cX10_goHours 373 = .ok (.goto (-334), 3) := by decide +kernel
theorem dX10_goHours_376 : decode cX10_goHours 376 = .ok (.bipush (-6), 2) := by decide +kernel
theorem dX10_goHours_378 : decode cX10_goHours 378 = .ok (.ireturn, 1) := by decide +kernel
set_option maxRecDepth 20000 in
theorem ggX10_judge_X10_in : GoodIn wsX10_judge wsX10_in := goodIn_r _ [5] (by decide +kernel) (by decide +kernel)
set_option maxRecDepth 20000 in
theorem gX10_judge_X10_in : GoodIn wsX10_judge (va_wsS RX10 43 yX10_in wsX10_in) := goodIn_app (goodIn_of _ (by decide +kernel)) ggX10_judge_X10_in
set_option maxRecDepth 20000 in
theorem ggX10_judge_X10_faultOf : GoodIn wsX10_judge wsX10_faultOf := goodIn_r _ [9, 10, 11, 12, 13, 4, 14, 2, 3, 5, 87, 88, 89, 90, 91, 92, 93, 94, 95, 96, 97, 98, 99, 100, 101, 102, 103, 104, 105] (by decide +kernel) (by decide +kernel)
set_option maxRecDepth 20000 in
theorem gX10_judge_X10_faultOf : GoodIn wsX10_judge (wsV RX10 68 RX10 yX10_faultOf wsX10_faultOf) := goodIn_app (goodIn_of _ (by decide +kernel)) ggX10_judge_X10_faultOf
set_option maxRecDepth 20000 in
theorem ggX10_judge_X10_goHours : GoodIn wsX10_judge wsX10_goHours := goodIn_r _ [18, 19, 20, 21, 22, 10, 11, 1, 23, 24, 25, 26, 27, 28, 29, 4, 30, 31, 32, 33, 34, 35, 36, 37, 38, 39, 40, 12, 13, 14, 2, 3, 5, 41, 42, 43, 44, 45, 46, 47, 48, 49, 50, 51, 52, 53, 54, 55, 56, 57, 58, 59, 60, 61, 62, 63, 64, 65, 66, 67, 68, 69, 70, 71, 72, 73, 74, 75, 76, 77, 78, 79, 80, 81, 82, 83, 84, 85, 86, 87, 88, 89, 90, 91, 92, 93, 94, 95, 96, 97, 98, 99, 100, 101, 102, 103, 104, 105] (by decide +kernel) (by decide +kernel)
set_option maxRecDepth 20000 in
theorem gX10_judge_X10_goHours : GoodIn wsX10_judge (wsV RX10 130 RX10 yX10_goHours wsX10_goHours) := goodIn_app (goodIn_of _ (by decide +kernel)) ggX10_judge_X10_goHours
theorem dX10_judge_0 : decode cX10_judge 0 = .ok (.iload_n 1, 1) := by decide +kernel
theorem dX10_judge_1 : decode cX10_judge 1 = .ok (.iconst 0, 1) := by decide +kernel
theorem dX10_judge_2 : decode cX10_judge 2 = .ok (.iconst 1, 1) := by decide +kernel
theorem dX10_judge_3 : decode cX10_judge 3 = .ok (.invokestatic 43, 3) := by decide +kernel
theorem dX10_judge_6 : decode cX10_judge 6 = .ok (.ifCond .ne 6, 3) := by decide +kernel
theorem dX10_judge_9 : decode cX10_judge 9 = .ok (.bipush (-2), 2) := by decide +kernel
theorem dX10_judge_11 : decode cX10_judge 11 = .ok (.ireturn, 1) := by decide +kernel
theorem dX10_judge_12 : decode cX10_judge 12 = .ok (.aload_n 0, 1) := by decide +kernel
theorem dX10_judge_13 : decode cX10_judge 13 = .ok (.invokevirtual 68, 3) := by decide +kernel
theorem dX10_judge_16 : decode cX10_judge 16 = .ok (.ifCond .lt 6, 3) := by decide +kernel
theorem dX10_judge_19 : decode cX10_judge 19 = .ok (.bipush (-5), 2) := by decide +kernel
theorem dX10_judge_21 : decode cX10_judge 21 = .ok (.ireturn, 1) := by decide +kernel
theorem dX10_judge_22 : decode cX10_judge 22 = .ok (.aload_n 0, 1) := by decide +kernel
theorem dX10_judge_23 : decode cX10_judge 23 = .ok (.invokevirtual 130, 3) := by decide +kernel
theorem dX10_judge_26 : decode cX10_judge 26 = .ok (.istore_n 2, 1) := by decide +kernel
theorem dX10_judge_27 : decode cX10_judge 27 = .ok (.iload_n 2, 1) := by decide +kernel
theorem dX10_judge_28 : decode cX10_judge 28 = .ok (.ifCond .lt 7, 3) := by decide +kernel
theorem dX10_judge_31 : decode cX10_judge 31 = .ok (.iload_n 1, 1) := by decide +kernel
theorem dX10_judge_32 : decode cX10_judge 32 = .ok (.ifCond .ne 7, 3) := by decide +kernel
theorem dX10_judge_35 : decode cX10_judge 35 = .ok (.iload_n 2, 1) := by decide +kernel
theorem dX10_judge_36 : decode cX10_judge 36 = .ok (.goto 7, 3) := by decide +kernel
theorem dX10_judge_39 : decode cX10_judge 39 = .ok (.aload_n 0, 1) := by decide +kernel
theorem dX10_judge_40 : decode cX10_judge 40 = .ok (.getfield 102, 3) := by decide +kernel
theorem dX10_judge_43 : decode cX10_judge 43 = .ok (.ireturn, 1) := by decide +kernel
set_option maxRecDepth 20000 in
theorem ggX10_barOfHours_X10_faultOf : GoodIn wsX10_barOfHours wsX10_faultOf := goodIn_r _ [5, 6, 7, 8, 9, 4, 10, 11, 12, 13, 87, 88, 89, 90, 91, 92, 93, 94, 95, 96, 97, 98, 99, 100, 101, 102, 103, 104, 105] (by decide +kernel) (by decide +kernel)
set_option maxRecDepth 20000 in
theorem gX10_barOfHours_X10_faultOf : GoodIn wsX10_barOfHours (wsV RX10 68 RX10 yX10_faultOf wsX10_faultOf) := goodIn_app (goodIn_of _ (by decide +kernel)) ggX10_barOfHours_X10_faultOf
set_option maxRecDepth 20000 in
theorem ggX10_barOfHours_X10_goHours : GoodIn wsX10_barOfHours wsX10_goHours := goodIn_r _ [17, 18, 19, 20, 21, 6, 7, 22, 23, 24, 25, 26, 27, 28, 29, 4, 30, 31, 32, 33, 34, 35, 36, 37, 38, 39, 40, 8, 9, 10, 11, 12, 13, 41, 42, 43, 44, 45, 46, 47, 48, 49, 50, 51, 52, 53, 54, 55, 56, 57, 58, 59, 60, 61, 62, 63, 64, 65, 66, 67, 68, 69, 70, 71, 72, 73, 74, 75, 76, 77, 78, 79, 80, 81, 82, 83, 84, 85, 86, 87, 88, 89, 90, 91, 92, 93, 94, 95, 96, 97, 98, 99, 100, 101, 102, 103, 104, 105] (by decide +kernel) (by decide +kernel)
set_option maxRecDepth 20000 in
theorem gX10_barOfHours_X10_goHours : GoodIn wsX10_barOfHours (wsV RX10 130 RX10 yX10_goHours wsX10_goHours) := goodIn_app (goodIn_of _ (by decide +kernel)) ggX10_barOfHours_X10_goHours
theorem dX10_barOfHours_0 : decode cX10_barOfHours 0 = .ok (.aload_n 0, 1) := by decide +kernel
theorem dX10_barOfHours_1 : decode cX10_barOfHours 1 = .ok (.invokevirtual 68, 3) := by decide +kernel
theorem dX10_barOfHours_4 : decode cX10_barOfHours 4 = .ok (.ifCond .ge 10, 3) := by decide +kernel
theorem dX10_barOfHours_7 : decode cX10_barOfHours 7 = .ok (.aload_n 0, 1) := by decide +kernel
theorem dX10_barOfHours_8 : decode cX10_barOfHours 8 = .ok (.invokevirtual 130, 3) := by decide +kernel
theorem dX10_barOfHours_11 : decode cX10_barOfHours 11 = .ok (.ifCond .lt 8, 3) := by decide +kernel
theorem dX10_barOfHours_14 : decode cX10_barOfHours 14 = .ok (.bipush (-5), 2) := by decide +kernel
theorem dX10_barOfHours_16 : decode cX10_barOfHours 16 = .ok (.goto 4, 3) := by decide +kernel
theorem dX10_barOfHours_19 : decode cX10_barOfHours 19 = .ok (.iconst 0, 1) := by decide +kernel
theorem dX10_barOfHours_20 : decode cX10_barOfHours 20 = .ok (.ireturn, 1) := by decide +kernel
set_option maxRecDepth 20000 in
theorem ggX10_done_X10_barOfHours : GoodIn wsX10_done wsX10_barOfHours := goodIn_r _ [11, 12, 13, 14, 10, 15, 5, 16, 17, 18, 19, 20, 21, 22, 23, 24, 25, 26, 6, 27, 28, 29, 30, 1, 4, 31, 32, 33, 34, 35, 36, 2, 3, 37, 38, 39, 40, 41, 42, 43, 44, 45, 46, 47, 48, 49, 50, 51, 52, 53, 54, 55, 56, 57, 58, 59, 60, 61, 62, 63, 64, 65, 66, 67, 68, 69, 70, 71, 72, 73, 74, 75, 76, 77, 78, 79, 80, 81, 82, 83, 84, 85, 86, 87, 88, 89, 90, 91, 92, 93, 94, 95, 96, 97, 98, 99, 100, 101, 102, 103, 104, 105, 106, 107, 108, 109] (by decide +kernel) (by decide +kernel)
set_option maxRecDepth 20000 in
theorem gX10_done_X10_barOfHours : GoodIn wsX10_done (wsV RX10 133 RX10 yX10_barOfHours wsX10_barOfHours) := goodIn_app (goodIn_of _ (by decide +kernel)) ggX10_done_X10_barOfHours
theorem dX10_done_0 : decode cX10_done 0 = .ok (.aload_n 0, 1) := by decide +kernel
theorem dX10_done_1 : decode cX10_done 1 = .ok (.invokevirtual 133, 3) := by decide +kernel
theorem dX10_done_4 : decode cX10_done 4 = .ok (.ifCond .ge 6, 3) := by decide +kernel
theorem dX10_done_7 : decode cX10_done 7 = .ok (.bipush (-5), 2) := by decide +kernel
theorem dX10_done_9 : decode cX10_done 9 = .ok (.ireturn, 1) := by decide +kernel
theorem dX10_done_10 : decode cX10_done 10 = .ok (.aload_n 0, 1) := by decide +kernel
theorem dX10_done_11 : decode cX10_done 11 = .ok (.aload_n 0, 1) := by decide +kernel
theorem dX10_done_12 : decode cX10_done 12 = .ok (.getfield 72, 3) := by decide +kernel
theorem dX10_done_15 : decode cX10_done 15 = .ok (.putfield 55, 3) := by decide +kernel
theorem dX10_done_18 : decode cX10_done 18 = .ok (.iconst 0, 1) := by decide +kernel
theorem dX10_done_19 : decode cX10_done 19 = .ok (.istore_n 1, 1) := by decide +kernel
theorem dX10_done_20 : decode cX10_done 20 = .ok (.iload_n 1, 1) := by decide +kernel
theorem dX10_done_21 : decode cX10_done 21 = .ok (.bipush 8, 2) := by decide +kernel
theorem dX10_done_23 : decode cX10_done 23 = .ok (.if_icmp .ge 21, 3) := by decide +kernel
theorem dX10_done_26 : decode cX10_done 26 = .ok (.aload_n 0, 1) := by decide +kernel
theorem dX10_done_27 : decode cX10_done 27 = .ok (.getfield 7, 3) := by decide +kernel
theorem dX10_done_30 : decode cX10_done 30 = .ok (.iload_n 1, 1) := by decide +kernel
theorem dX10_done_31 : decode cX10_done 31 = .ok (.aload_n 0, 1) := by decide +kernel
theorem dX10_done_32 : decode cX10_done 32 = .ok (.getfield 30, 3) := by decide +kernel
theorem dX10_done_35 : decode cX10_done 35 = .ok (.iload_n 1, 1) := by decide +kernel
theorem dX10_done_36 : decode cX10_done 36 = .ok (.iaload, 1) := by decide +kernel
theorem dX10_done_37 : decode cX10_done 37 = .ok (.iastore, 1) := by decide +kernel
theorem dX10_done_38 : decode cX10_done 38 = .ok (.iinc 1 1, 3) := by decide +kernel
theorem dX10_done_41 : decode cX10_done 41 = .ok (.goto (-21), 3) := by decide +kernel
theorem dX10_done_44 : decode cX10_done 44 = .ok (.aload_n 0, 1) := by decide +kernel
theorem dX10_done_45 : decode cX10_done 45 = .ok (.iconst 0, 1) := by decide +kernel
theorem dX10_done_46 : decode cX10_done 46 = .ok (.putfield 62, 3) := by decide +kernel
theorem dX10_done_49 : decode cX10_done 49 = .ok (.aload_n 0, 1) := by decide +kernel
theorem dX10_done_50 : decode cX10_done 50 = .ok (.getfield 86, 3) := by decide +kernel
theorem dX10_done_53 : decode cX10_done 53 = .ok (.ireturn, 1) := by decide +kernel
set_option maxRecDepth 20000 in
theorem ggX10_state_X10_isThere : GoodIn wsX10_state wsX10_isThere := goodIn_r _ [7, 8, 9, 10, 6, 11, 12, 13, 14, 15, 16, 17, 18, 19, 20, 21, 22, 23, 24, 25, 26, 27, 28, 29, 30, 31, 32, 33] (by decide +kernel) (by decide +kernel)
set_option maxRecDepth 20000 in
theorem gX10_state_X10_isThere : GoodIn wsX10_state (wsV RX10 51 RX10 yX10_isThere wsX10_isThere) := goodIn_app (goodIn_of _ (by decide +kernel)) ggX10_state_X10_isThere
theorem dX10_state_0 : decode cX10_state 0 = .ok (.aload_n 0, 1) := by decide +kernel
theorem dX10_state_1 : decode cX10_state 1 = .ok (.iload_n 1, 1) := by decide +kernel
theorem dX10_state_2 : decode cX10_state 2 = .ok (.invokevirtual 51, 3) := by decide +kernel
theorem dX10_state_5 : decode cX10_state 5 = .ok (.ifCond .ne 5, 3) := by decide +kernel
theorem dX10_state_8 : decode cX10_state 8 = .ok (.iconst (-1), 1) := by decide +kernel
theorem dX10_state_9 : decode cX10_state 9 = .ok (.ireturn, 1) := by decide +kernel
theorem dX10_state_10 : decode cX10_state 10 = .ok (.iload_n 2, 1) := by decide +kernel
theorem dX10_state_11 : decode cX10_state 11 = .ok (.ifCond .ne 12, 3) := by decide +kernel
theorem dX10_state_14 : decode cX10_state 14 = .ok (.aload_n 0, 1) := by decide +kernel
theorem dX10_state_15 : decode cX10_state 15 = .ok (.getfield 7, 3) := by decide +kernel
theorem dX10_state_18 : decode cX10_state 18 = .ok (.iload_n 1, 1) := by decide +kernel
theorem dX10_state_19 : decode cX10_state 19 = .ok (.iaload, 1) := by decide +kernel
theorem dX10_state_20 : decode cX10_state 20 = .ok (.goto 21, 3) := by decide +kernel
theorem dX10_state_23 : decode cX10_state 23 = .ok (.iload_n 2, 1) := by decide +kernel
theorem dX10_state_24 : decode cX10_state 24 = .ok (.iconst 1, 1) := by decide +kernel
theorem dX10_state_25 : decode cX10_state 25 = .ok (.if_icmp .ne 14, 3) := by decide +kernel
theorem dX10_state_28 : decode cX10_state 28 = .ok (.aload_n 0, 1) := by decide +kernel
theorem dX10_state_29 : decode cX10_state 29 = .ok (.getfield 55, 3) := by decide +kernel
theorem dX10_state_32 : decode cX10_state 32 = .ok (.iload_n 1, 1) := by decide +kernel
theorem dX10_state_33 : decode cX10_state 33 = .ok (.ishr, 1) := by decide +kernel
theorem dX10_state_34 : decode cX10_state 34 = .ok (.iconst 1, 1) := by decide +kernel
theorem dX10_state_35 : decode cX10_state 35 = .ok (.iand, 1) := by decide +kernel
theorem dX10_state_36 : decode cX10_state 36 = .ok (.goto 5, 3) := by decide +kernel
theorem dX10_state_39 : decode cX10_state 39 = .ok (.bipush (-2), 2) := by decide +kernel
theorem dX10_state_41 : decode cX10_state 41 = .ok (.ireturn, 1) := by decide +kernel
set_option maxRecDepth 20000 in
theorem ggX10_behind_X10_isThere : GoodIn wsX10_behind wsX10_isThere := goodIn_r _ [7, 8, 9, 10, 6, 11, 12, 13, 14, 91, 92, 93, 94, 95, 96, 97, 98, 99, 100, 101, 102, 103, 104, 105, 106, 107, 108, 109] (by decide +kernel) (by decide +kernel)
set_option maxRecDepth 20000 in
theorem gX10_behind_X10_isThere : GoodIn wsX10_behind (wsV RX10 51 RX10 yX10_isThere wsX10_isThere) := goodIn_app (goodIn_of _ (by decide +kernel)) ggX10_behind_X10_isThere
set_option maxRecDepth 20000 in
theorem ggX10_behind_X10_in : GoodIn wsX10_behind wsX10_in := goodIn_r _ [11] (by decide +kernel) (by decide +kernel)
set_option maxRecDepth 20000 in
theorem gX10_behind_X10_in : GoodIn wsX10_behind (va_wsS RX10 43 yX10_in wsX10_in) := goodIn_app (goodIn_of _ (by decide +kernel)) ggX10_behind_X10_in
set_option maxRecDepth 20000 in
theorem ggX10_behind_X10_barOfHours : GoodIn wsX10_behind wsX10_barOfHours := goodIn_r _ [18, 19, 20, 21, 6, 22, 23, 24, 25, 26, 27, 9, 10, 11, 28, 29, 30, 31, 32, 33, 34, 35, 36, 2, 1, 37, 38, 39, 40, 41, 42, 43, 44, 45, 46, 47, 48, 8, 12, 13, 14, 49, 50, 51, 52, 3, 4, 5, 7, 53, 54, 55, 56, 57, 58, 59, 60, 61, 62, 63, 64, 65, 66, 67, 68, 69, 70, 71, 72, 73, 74, 75, 76, 77, 78, 79, 80, 81, 82, 83, 84, 85, 86, 87, 88, 89, 90, 91, 92, 93, 94, 95, 96, 97, 98, 99, 100, 101, 102, 103, 104, 105, 106, 107, 108, 109] (by decide +kernel) (by decide +kernel)
set_option maxRecDepth 20000 in
theorem gX10_behind_X10_barOfHours : GoodIn wsX10_behind (wsV RX10 133 RX10 yX10_barOfHours wsX10_barOfHours) := goodIn_app (goodIn_of _ (by decide +kernel)) ggX10_behind_X10_barOfHours
theorem dX10_behind_0 : decode cX10_behind 0 = .ok (.aload_n 0, 1) := by decide +kernel
theorem dX10_behind_1 : decode cX10_behind 1 = .ok (.iload_n 1, 1) := by decide +kernel
theorem dX10_behind_2 : decode cX10_behind 2 = .ok (.invokevirtual 51, 3) := by decide +kernel
theorem dX10_behind_5 : decode cX10_behind 5 = .ok (.ifCond .ne 5, 3) := by decide +kernel
theorem dX10_behind_8 : decode cX10_behind 8 = .ok (.iconst (-1), 1) := by decide +kernel
theorem dX10_behind_9 : decode cX10_behind 9 = .ok (.ireturn, 1) := by decide +kernel
theorem dX10_behind_10 : decode cX10_behind 10 = .ok (.iload_n 2, 1) := by decide +kernel
theorem dX10_behind_11 : decode cX10_behind 11 = .ok (.iconst 0, 1) := by decide +kernel
theorem dX10_behind_12 : decode cX10_behind 12 = .ok (.iconst 1, 1) := by decide +kernel
theorem dX10_behind_13 : decode cX10_behind 13 = .ok (.invokestatic 43, 3) := by decide +kernel
theorem dX10_behind_16 : decode cX10_behind 16 = .ok (.ifCond .ne 6, 3) := by decide +kernel
theorem dX10_behind_19 : decode cX10_behind 19 = .ok (.bipush (-2), 2) := by decide +kernel
theorem dX10_behind_21 : decode cX10_behind 21 = .ok (.ireturn, 1) := by decide +kernel
theorem dX10_behind_22 : decode cX10_behind 22 = .ok (.aload_n 0, 1) := by decide +kernel
theorem dX10_behind_23 : decode cX10_behind 23 = .ok (.invokevirtual 133, 3) := by decide +kernel
theorem dX10_behind_26 : decode cX10_behind 26 = .ok (.ifCond .ge 6, 3) := by decide +kernel
theorem dX10_behind_29 : decode cX10_behind 29 = .ok (.bipush (-5), 2) := by decide +kernel
theorem dX10_behind_31 : decode cX10_behind 31 = .ok (.ireturn, 1) := by decide +kernel
theorem dX10_behind_32 : decode cX10_behind 32 = .ok (.iload_n 2, 1) := by decide +kernel
theorem dX10_behind_33 : decode cX10_behind 33 = .ok (.ifCond .ne 12, 3) := by decide +kernel
theorem dX10_behind_36 : decode cX10_behind 36 = .ok (.aload_n 0, 1) := by decide +kernel
theorem dX10_behind_37 : decode cX10_behind 37 = .ok (.getfield 30, 3) := by decide +kernel
theorem dX10_behind_40 : decode cX10_behind 40 = .ok (.iload_n 1, 1) := by decide +kernel
theorem dX10_behind_41 : decode cX10_behind 41 = .ok (.iaload, 1) := by decide +kernel
theorem dX10_behind_42 : decode cX10_behind 42 = .ok (.goto 11, 3) := by decide +kernel
theorem dX10_behind_45 : decode cX10_behind 45 = .ok (.aload_n 0, 1) := by decide +kernel
theorem dX10_behind_46 : decode cX10_behind 46 = .ok (.getfield 72, 3) := by decide +kernel
theorem dX10_behind_49 : decode cX10_behind 49 = .ok (.iload_n 1, 1) := by decide +kernel
theorem dX10_behind_50 : decode cX10_behind 50 = .ok (.ishr, 1) := by decide +kernel
theorem dX10_behind_51 : decode cX10_behind 51 = .ok (.iconst 1, 1) := by decide +kernel
theorem dX10_behind_52 : decode cX10_behind 52 = .ok (.iand, 1) := by decide +kernel
theorem dX10_behind_53 : decode cX10_behind 53 = .ok (.ireturn, 1) := by decide +kernel
set_option maxRecDepth 20000 in
theorem ggX10_breaths_X10_in : GoodIn wsX10_breaths wsX10_in := goodIn_r _ [6] (by decide +kernel) (by decide +kernel)
set_option maxRecDepth 20000 in
theorem gX10_breaths_X10_in : GoodIn wsX10_breaths (va_wsS RX10 43 yX10_in wsX10_in) := goodIn_app (goodIn_of _ (by decide +kernel)) ggX10_breaths_X10_in
set_option maxRecDepth 20000 in
theorem ggX10_breaths_X10_barOfHours : GoodIn wsX10_breaths wsX10_barOfHours := goodIn_r _ [10, 11, 12, 13, 5, 14, 15, 16, 17, 18, 19, 3, 4, 6, 20, 21, 22, 23, 24, 1, 2, 25, 26, 27, 28, 29, 30, 31, 32, 33, 34, 35, 36, 37, 38, 39, 40, 41, 42, 43, 44, 45, 46, 47, 48, 49, 50, 51, 52, 53, 54, 55, 56, 57, 58, 59, 60, 61, 62, 63, 64, 65, 66, 67, 68, 69, 70, 71, 72, 73, 74, 75, 76, 77, 78, 79, 80, 81, 82, 83, 84, 85, 86, 87, 88, 89, 90, 91, 92, 93, 94, 95, 96, 97, 98, 99, 100, 101, 102, 103, 104, 105, 106, 107, 108, 109] (by decide +kernel) (by decide +kernel)
set_option maxRecDepth 20000 in
theorem gX10_breaths_X10_barOfHours : GoodIn wsX10_breaths (wsV RX10 133 RX10 yX10_barOfHours wsX10_barOfHours) := goodIn_app (goodIn_of _ (by decide +kernel)) ggX10_breaths_X10_barOfHours
theorem dX10_breaths_0 : decode cX10_breaths 0 = .ok (.iload_n 1, 1) := by decide +kernel
theorem dX10_breaths_1 : decode cX10_breaths 1 = .ok (.iconst 0, 1) := by decide +kernel
theorem dX10_breaths_2 : decode cX10_breaths 2 = .ok (.iconst 1, 1) := by decide +kernel
theorem dX10_breaths_3 : decode cX10_breaths 3 = .ok (.invokestatic 43, 3) := by decide +kernel
theorem dX10_breaths_6 : decode cX10_breaths 6 = .ok (.ifCond .ne 6, 3) := by decide +kernel
theorem dX10_breaths_9 : decode cX10_breaths 9 = .ok (.bipush (-2), 2) := by decide +kernel
theorem dX10_breaths_11 : decode cX10_breaths 11 = .ok (.ireturn, 1) := by decide +kernel
theorem dX10_breaths_12 : decode cX10_breaths 12 = .ok (.aload_n 0, 1) := by decide +kernel
theorem dX10_breaths_13 : decode cX10_breaths 13 = .ok (.invokevirtual 133, 3) := by decide +kernel
theorem dX10_breaths_16 : decode cX10_breaths 16 = .ok (.ifCond .ge 6, 3) := by decide +kernel
theorem dX10_breaths_19 : decode cX10_breaths 19 = .ok (.bipush (-5), 2) := by decide +kernel
theorem dX10_breaths_21 : decode cX10_breaths 21 = .ok (.ireturn, 1) := by decide +kernel
theorem dX10_breaths_22 : decode cX10_breaths 22 = .ok (.iload_n 1, 1) := by decide +kernel
theorem dX10_breaths_23 : decode cX10_breaths 23 = .ok (.ifCond .ne 10, 3) := by decide +kernel
theorem dX10_breaths_26 : decode cX10_breaths 26 = .ok (.aload_n 0, 1) := by decide +kernel
theorem dX10_breaths_27 : decode cX10_breaths 27 = .ok (.getfield 89, 3) := by decide +kernel
theorem dX10_breaths_30 : decode cX10_breaths 30 = .ok (.goto 7, 3) := by decide +kernel
theorem dX10_breaths_33 : decode cX10_breaths 33 = .ok (.aload_n 0, 1) := by decide +kernel
theorem dX10_breaths_34 : decode cX10_breaths 34 = .ok (.getfield 96, 3) := by decide +kernel
theorem dX10_breaths_37 : decode cX10_breaths 37 = .ok (.ireturn, 1) := by decide +kernel
set_option maxRecDepth 20000 in
theorem ggX10_noticed_X10_barOfHours : GoodIn wsX10_noticed wsX10_barOfHours := goodIn_r _ [6, 7, 8, 9, 5, 10, 11, 12, 13, 14, 15, 16, 17, 18, 19, 20, 21, 22, 23, 24, 25, 1, 26, 27, 28, 29, 30, 31, 32, 33, 34, 35, 36, 37, 38, 39, 40, 41, 42, 43, 44, 45, 46, 47, 48, 49, 50, 51, 52, 53, 54, 55, 56, 57, 58, 59, 60, 61, 62, 63, 64, 65, 66, 67, 68, 69, 70, 71, 72, 73, 74, 75, 76, 77, 78, 79, 80, 81, 82, 83, 84, 85, 86, 87, 88, 89, 90, 91, 92, 93, 94, 95, 96, 97, 98, 99, 100, 101, 102, 103, 104, 105, 106, 107, 108, 109] (by decide +kernel) (by decide +kernel)
set_option maxRecDepth 20000 in
theorem gX10_noticed_X10_barOfHours : GoodIn wsX10_noticed (wsV RX10 133 RX10 yX10_barOfHours wsX10_barOfHours) := goodIn_app (goodIn_of _ (by decide +kernel)) ggX10_noticed_X10_barOfHours
theorem dX10_noticed_0 : decode cX10_noticed 0 = .ok (.aload_n 0, 1) := by decide +kernel
theorem dX10_noticed_1 : decode cX10_noticed 1 = .ok (.invokevirtual 133, 3) := by decide +kernel
theorem dX10_noticed_4 : decode cX10_noticed 4 = .ok (.ifCond .ge 8, 3) := by decide +kernel
theorem dX10_noticed_7 : decode cX10_noticed 7 = .ok (.bipush (-5), 2) := by decide +kernel
theorem dX10_noticed_9 : decode cX10_noticed 9 = .ok (.goto 7, 3) := by decide +kernel
theorem dX10_noticed_12 : decode cX10_noticed 12 = .ok (.aload_n 0, 1) := by decide +kernel
theorem dX10_noticed_13 : decode cX10_noticed 13 = .ok (.getfield 99, 3) := by decide +kernel
theorem dX10_noticed_16 : decode cX10_noticed 16 = .ok (.ireturn, 1) := by decide +kernel
set_option maxRecDepth 20000 in
theorem ggX10_ahead_X10_asNow : GoodIn wsX10_ahead wsX10_asNow := goodIn_r _ [5, 6, 7, 8, 9, 17, 18, 19, 20, 21, 22, 23, 24, 25, 26, 27, 28, 29, 30, 31, 32, 33, 34, 35] (by decide +kernel) (by decide +kernel)
set_option maxRecDepth 20000 in
theorem gX10_ahead_X10_asNow : GoodIn wsX10_ahead (wsV RX10 83 RX10 yX10_asNow wsX10_asNow) := goodIn_app (goodIn_of _ (by decide +kernel)) ggX10_ahead_X10_asNow
set_option maxRecDepth 20000 in
theorem ggX10_ahead_X10_first : GoodIn wsX10_ahead wsX10_first := goodIn_r _ [13, 7, 8, 14, 15, 4, 16, 17, 18, 19, 20, 21, 22, 23, 24, 25, 26, 27, 28, 29, 30, 31, 32, 33, 34, 35] (by decide +kernel) (by decide +kernel)
set_option maxRecDepth 20000 in
theorem gX10_ahead_X10_first : GoodIn wsX10_ahead (wsV RX10 124 RX10 yX10_first wsX10_first) := goodIn_app (goodIn_of _ (by decide +kernel)) ggX10_ahead_X10_first
theorem dX10_ahead_0 : decode cX10_ahead 0 = .ok (.aload_n 0, 1) := by decide +kernel
theorem dX10_ahead_1 : decode cX10_ahead 1 = .ok (.invokevirtual 83, 3) := by decide +kernel
theorem dX10_ahead_4 : decode cX10_ahead 4 = .ok (.aload_n 0, 1) := by decide +kernel
theorem dX10_ahead_5 : decode cX10_ahead 5 = .ok (.invokevirtual 124, 3) := by decide +kernel
theorem dX10_ahead_8 : decode cX10_ahead 8 = .ok (.ireturn, 1) := by decide +kernel
set_option maxRecDepth 20000 in
theorem ggX10_differ_X10_asNow : GoodIn wsX10_differ wsX10_asNow := goodIn_r _ [5, 6, 7, 8, 9, 18, 19, 20, 21, 22, 23, 24, 25, 26, 27, 28, 29, 30, 31, 32, 33, 34, 35, 36] (by decide +kernel) (by decide +kernel)
set_option maxRecDepth 20000 in
theorem gX10_differ_X10_asNow : GoodIn wsX10_differ (wsV RX10 83 RX10 yX10_asNow wsX10_asNow) := goodIn_app (goodIn_of _ (by decide +kernel)) ggX10_differ_X10_asNow
set_option maxRecDepth 20000 in
theorem ggX10_differ_X10_spread : GoodIn wsX10_differ wsX10_spread := goodIn_r _ [13, 14, 7, 8, 15, 16, 4, 17, 18, 19, 20, 21, 22, 23, 24, 25, 26, 27, 28, 29, 30, 31, 32, 33, 34, 35, 36] (by decide +kernel) (by decide +kernel)
set_option maxRecDepth 20000 in
theorem gX10_differ_X10_spread : GoodIn wsX10_differ (wsV RX10 127 RX10 yX10_spread wsX10_spread) := goodIn_app (goodIn_of _ (by decide +kernel)) ggX10_differ_X10_spread
theorem dX10_differ_0 : decode cX10_differ 0 = .ok (.aload_n 0, 1) := by decide +kernel
theorem dX10_differ_1 : decode cX10_differ 1 = .ok (.invokevirtual 83, 3) := by decide +kernel
theorem dX10_differ_4 : decode cX10_differ 4 = .ok (.aload_n 0, 1) := by decide +kernel
theorem dX10_differ_5 : decode cX10_differ 5 = .ok (.invokevirtual 127, 3) := by decide +kernel
theorem dX10_differ_8 : decode cX10_differ 8 = .ok (.ireturn, 1) := by decide +kernel
set_option maxRecDepth 20000 in
theorem ggX10_alike_X10_has : GoodIn wsX10_alike wsX10_has := goodIn_r _ [6] (by decide +kernel) (by decide +kernel)
set_option maxRecDepth 20000 in
theorem gX10_alike_X10_has : GoodIn wsX10_alike (va_wsS RX10 47 yX10_has wsX10_has) := goodIn_app (goodIn_of _ (by decide +kernel)) ggX10_alike_X10_has
theorem dX10_alike_0 : decode cX10_alike 0 = .ok (.iconst 0, 1) := by decide +kernel
theorem dX10_alike_1 : decode cX10_alike 1 = .ok (.istore_n 2, 1) := by decide +kernel
theorem dX10_alike_2 : decode cX10_alike 2 = .ok (.iconst 0, 1) := by decide +kernel
theorem dX10_alike_3 : decode cX10_alike 3 = .ok (.istore_n 3, 1) := by decide +kernel
theorem dX10_alike_4 : decode cX10_alike 4 = .ok (.iload_n 3, 1) := by decide +kernel
theorem dX10_alike_5 : decode cX10_alike 5 = .ok (.bipush 8, 2) := by decide +kernel
theorem dX10_alike_7 : decode cX10_alike 7 = .ok (.if_icmp .ge 82, 3) := by decide +kernel
theorem dX10_alike_10 : decode cX10_alike 10 = .ok (.iload_n 3, 1) := by decide +kernel
theorem dX10_alike_11 : decode cX10_alike 11 = .ok (.iconst 1, 1) := by decide +kernel
theorem dX10_alike_12 : decode cX10_alike 12 = .ok (.iadd, 1) := by decide +kernel
theorem dX10_alike_13 : decode cX10_alike 13 = .ok (.istore 4, 2) := by decide +kernel
theorem dX10_alike_15 : decode cX10_alike 15 = .ok (.iload 4, 2) := by decide +kernel
theorem dX10_alike_17 : decode cX10_alike 17 = .ok (.bipush 8, 2) := by decide +kernel
theorem dX10_alike_19 : decode cX10_alike 19 = .ok (.if_icmp .ge 64, 3) := by decide +kernel
theorem dX10_alike_22 : decode cX10_alike 22 = .ok (.aload_n 0, 1) := by decide +kernel
theorem dX10_alike_23 : decode cX10_alike 23 = .ok (.getfield 55, 3) := by decide +kernel
theorem dX10_alike_26 : decode cX10_alike 26 = .ok (.iload_n 3, 1) := by decide +kernel
theorem dX10_alike_27 : decode cX10_alike 27 = .ok (.invokestatic 47, 3) := by decide +kernel
theorem dX10_alike_30 : decode cX10_alike 30 = .ok (.ifCond .eq 47, 3) := by decide +kernel
theorem dX10_alike_33 : decode cX10_alike 33 = .ok (.aload_n 0, 1) := by decide +kernel
theorem dX10_alike_34 : decode cX10_alike 34 = .ok (.getfield 55, 3) := by decide +kernel
theorem dX10_alike_37 : decode cX10_alike 37 = .ok (.iload 4, 2) := by decide +kernel
theorem dX10_alike_39 : decode cX10_alike 39 = .ok (.invokestatic 47, 3) := by decide +kernel
theorem dX10_alike_42 : decode cX10_alike 42 = .ok (.ifCond .eq 35, 3) := by decide +kernel
theorem dX10_alike_45 : decode cX10_alike 45 = .ok (.aload_n 0, 1) := by decide +kernel
theorem dX10_alike_46 : decode cX10_alike 46 = .ok (.getfield 7, 3) := by decide +kernel
theorem dX10_alike_49 : decode cX10_alike 49 = .ok (.iload_n 3, 1) := by decide +kernel
theorem dX10_alike_50 : decode cX10_alike 50 = .ok (.iaload, 1) := by decide +kernel
theorem dX10_alike_51 : decode cX10_alike 51 = .ok (.aload_n 0, 1) := by decide +kernel
theorem dX10_alike_52 : decode cX10_alike 52 = .ok (.getfield 7, 3) := by decide +kernel
theorem dX10_alike_55 : decode cX10_alike 55 = .ok (.iload 4, 2) := by decide +kernel
theorem dX10_alike_57 : decode cX10_alike 57 = .ok (.iaload, 1) := by decide +kernel
theorem dX10_alike_58 : decode cX10_alike 58 = .ok (.if_icmp .ne 19, 3) := by decide +kernel
theorem dX10_alike_61 : decode cX10_alike 61 = .ok (.iload_n 2, 1) := by decide +kernel
theorem dX10_alike_62 : decode cX10_alike 62 = .ok (.iload_n 1, 1) := by decide +kernel
theorem dX10_alike_63 : decode cX10_alike 63 = .ok (.if_icmp .ne 11, 3) := by decide +kernel
theorem dX10_alike_66 : decode cX10_alike 66 = .ok (.bipush 10, 2) := by decide +kernel
theorem dX10_alike_68 : decode cX10_alike 68 = .ok (.iload_n 3, 1) := by decide +kernel
theorem dX10_alike_69 : decode cX10_alike 69 = .ok (.imul, 1) := by decide +kernel
theorem dX10_alike_70 : decode cX10_alike 70 = .ok (.iload 4, 2) := by decide +kernel
theorem dX10_alike_72 : decode cX10_alike 72 = .ok (.iadd, 1) := by decide +kernel
theorem dX10_alike_73 : decode cX10_alike 73 = .ok (.ireturn, 1) := by decide +kernel
theorem dX10_alike_74 : decode cX10_alike 74 = .ok (.iinc 2 1, 3) := by decide +kernel
theorem dX10_alike_77 : decode cX10_alike 77 = .ok (.iinc 4 1, 3) := by decide +kernel
theorem dX10_alike_80 : decode cX10_alike 80 = .ok (.goto (-65), 3) := by decide +kernel
theorem dX10_alike_83 : decode cX10_alike 83 = .ok (.iinc 3 1, 3) := by decide +kernel
theorem dX10_alike_86 : decode cX10_alike 86 = .ok (.goto (-82), 3) := by decide +kernel
theorem dX10_alike_89 : decode cX10_alike 89 = .ok (.iload_n 1, 1) := by decide +kernel
theorem dX10_alike_90 : decode cX10_alike 90 = .ok (.iconst (-1), 1) := by decide +kernel
theorem dX10_alike_91 : decode cX10_alike 91 = .ok (.if_icmp .ne 7, 3) := by decide +kernel
theorem dX10_alike_94 : decode cX10_alike 94 = .ok (.iload_n 2, 1) := by decide +kernel
theorem dX10_alike_95 : decode cX10_alike 95 = .ok (.goto 5, 3) := by decide +kernel
theorem dX10_alike_98 : decode cX10_alike 98 = .ok (.bipush (-6), 2) := by decide +kernel
theorem dX10_alike_100 : decode cX10_alike 100 = .ok (.ireturn, 1) := by decide +kernel
theorem dX10_endOf_0 : decode cX10_endOf 0 = .ok (.aload_n 0, 1) := by decide +kernel
theorem dX10_endOf_1 : decode cX10_endOf 1 = .ok (.getfield 7, 3) := by decide +kernel
theorem dX10_endOf_4 : decode cX10_endOf 4 = .ok (.iload_n 1, 1) := by decide +kernel
theorem dX10_endOf_5 : decode cX10_endOf 5 = .ok (.iaload, 1) := by decide +kernel
theorem dX10_endOf_6 : decode cX10_endOf 6 = .ok (.aload_n 0, 1) := by decide +kernel
theorem dX10_endOf_7 : decode cX10_endOf 7 = .ok (.getfield 13, 3) := by decide +kernel
theorem dX10_endOf_10 : decode cX10_endOf 10 = .ok (.iload_n 1, 1) := by decide +kernel
theorem dX10_endOf_11 : decode cX10_endOf 11 = .ok (.iaload, 1) := by decide +kernel
theorem dX10_endOf_12 : decode cX10_endOf 12 = .ok (.iadd, 1) := by decide +kernel
theorem dX10_endOf_13 : decode cX10_endOf 13 = .ok (.iconst 1, 1) := by decide +kernel
theorem dX10_endOf_14 : decode cX10_endOf 14 = .ok (.isub, 1) := by decide +kernel
theorem dX10_endOf_15 : decode cX10_endOf 15 = .ok (.aload_n 0, 1) := by decide +kernel
theorem dX10_endOf_16 : decode cX10_endOf 16 = .ok (.getfield 13, 3) := by decide +kernel
theorem dX10_endOf_19 : decode cX10_endOf 19 = .ok (.iload_n 1, 1) := by decide +kernel
theorem dX10_endOf_20 : decode cX10_endOf 20 = .ok (.iaload, 1) := by decide +kernel
theorem dX10_endOf_21 : decode cX10_endOf 21 = .ok (.idiv, 1) := by decide +kernel
theorem dX10_endOf_22 : decode cX10_endOf 22 = .ok (.ireturn, 1) := by decide +kernel
set_option maxRecDepth 20000 in
theorem ggX10_ends_X10_isThere : GoodIn wsX10_ends wsX10_isThere := goodIn_r _ [6, 7, 8, 9, 5, 10, 11, 12, 13, 20, 21, 22, 23, 24, 25, 26, 27, 28, 29, 30, 31, 32, 33, 34, 35, 36, 37, 38] (by decide +kernel) (by decide +kernel)
set_option maxRecDepth 20000 in
theorem gX10_ends_X10_isThere : GoodIn wsX10_ends (wsV RX10 51 RX10 yX10_isThere wsX10_isThere) := goodIn_app (goodIn_of _ (by decide +kernel)) ggX10_ends_X10_isThere
set_option maxRecDepth 20000 in
theorem ggX10_ends_X10_has : GoodIn wsX10_ends wsX10_has := goodIn_r _ [13] (by decide +kernel) (by decide +kernel)
set_option maxRecDepth 20000 in
theorem gX10_ends_X10_has : GoodIn wsX10_ends (va_wsS RX10 47 yX10_has wsX10_has) := goodIn_app (goodIn_of _ (by decide +kernel)) ggX10_ends_X10_has
set_option maxRecDepth 20000 in
theorem ggX10_ends_X10_endOf : GoodIn wsX10_ends wsX10_endOf := goodIn_r _ [17, 18, 19, 20, 21, 22, 23, 24, 25, 26, 27, 28, 29, 30, 31, 32, 33, 34, 35, 36, 37, 38] (by decide +kernel) (by decide +kernel)
set_option maxRecDepth 20000 in
theorem gX10_ends_X10_endOf : GoodIn wsX10_ends (wsV RX10 136 RX10 yX10_endOf wsX10_endOf) := goodIn_app (goodIn_of _ (by decide +kernel)) ggX10_ends_X10_endOf
theorem dX10_ends_0 : decode cX10_ends 0 = .ok (.iload_n 1, 1) := by decide +kernel
theorem dX10_ends_1 : decode cX10_ends 1 = .ok (.iconst (-1), 1) := by decide +kernel
theorem dX10_ends_2 : decode cX10_ends 2 = .ok (.if_icmp .eq 13, 3) := by decide +kernel
theorem dX10_ends_5 : decode cX10_ends 5 = .ok (.aload_n 0, 1) := by decide +kernel
theorem dX10_ends_6 : decode cX10_ends 6 = .ok (.iload_n 1, 1) := by decide +kernel
theorem dX10_ends_7 : decode cX10_ends 7 = .ok (.invokevirtual 51, 3) := by decide +kernel
theorem dX10_ends_10 : decode cX10_ends 10 = .ok (.ifCond .ne 5, 3) := by decide +kernel
theorem dX10_ends_13 : decode cX10_ends 13 = .ok (.iconst (-1), 1) := by decide +kernel
theorem dX10_ends_14 : decode cX10_ends 14 = .ok (.ireturn, 1) := by decide +kernel
theorem dX10_ends_15 : decode cX10_ends 15 = .ok (.bipush (-6), 2) := by decide +kernel
theorem dX10_ends_17 : decode cX10_ends 17 = .ok (.istore_n 2, 1) := by decide +kernel
theorem dX10_ends_18 : decode cX10_ends 18 = .ok (.iconst 0, 1) := by decide +kernel
theorem dX10_ends_19 : decode cX10_ends 19 = .ok (.istore_n 3, 1) := by decide +kernel
theorem dX10_ends_20 : decode cX10_ends 20 = .ok (.iload_n 3, 1) := by decide +kernel
theorem dX10_ends_21 : decode cX10_ends 21 = .ok (.bipush 8, 2) := by decide +kernel
theorem dX10_ends_23 : decode cX10_ends 23 = .ok (.if_icmp .ge 48, 3) := by decide +kernel
theorem dX10_ends_26 : decode cX10_ends 26 = .ok (.iload_n 1, 1) := by decide +kernel
theorem dX10_ends_27 : decode cX10_ends 27 = .ok (.ifCond .lt 8, 3) := by decide +kernel
theorem dX10_ends_30 : decode cX10_ends 30 = .ok (.iload_n 3, 1) := by decide +kernel
theorem dX10_ends_31 : decode cX10_ends 31 = .ok (.iload_n 1, 1) := by decide +kernel
theorem dX10_ends_32 : decode cX10_ends 32 = .ok (.if_icmp .ne 31, 3) := by decide +kernel
theorem dX10_ends_35 : decode cX10_ends 35 = .ok (.aload_n 0, 1) := by decide +kernel
theorem dX10_ends_36 : decode cX10_ends 36 = .ok (.getfield 55, 3) := by decide +kernel
theorem dX10_ends_39 : decode cX10_ends 39 = .ok (.iload_n 3, 1) := by decide +kernel
theorem dX10_ends_40 : decode cX10_ends 40 = .ok (.invokestatic 47, 3) := by decide +kernel
theorem dX10_ends_43 : decode cX10_ends 43 = .ok (.ifCond .eq 20, 3) := by decide +kernel
theorem dX10_ends_46 : decode cX10_ends 46 = .ok (.aload_n 0, 1) := by decide +kernel
theorem dX10_ends_47 : decode cX10_ends 47 = .ok (.iload_n 3, 1) := by decide +kernel
theorem dX10_ends_48 : decode cX10_ends 48 = .ok (.invokevirtual 136, 3) := by decide +kernel
theorem dX10_ends_51 : decode cX10_ends 51 = .ok (.iload_n 2, 1) := by decide +kernel
theorem dX10_ends_52 : decode cX10_ends 52 = .ok (.if_icmp .le 11, 3) := by decide +kernel
theorem dX10_ends_55 : decode cX10_ends 55 = .ok (.aload_n 0, 1) := by decide +kernel
theorem dX10_ends_56 : decode cX10_ends 56 = .ok (.iload_n 3, 1) := by decide +kernel
theorem dX10_ends_57 : decode cX10_ends 57 = .ok (.invokevirtual 136, 3) := by decide +kernel
theorem dX10_ends_60 : decode cX10_ends 60 = .ok (.goto 4, 3) := by decide +kernel
theorem dX10_ends_63 : decode cX10_ends 63 = .ok (.iload_n 2, 1) := by decide +kernel
theorem dX10_ends_64 : decode cX10_ends 64 = .ok (.istore_n 2, 1) := by decide +kernel
theorem dX10_ends_65 : decode cX10_ends 65 = .ok (.iinc 3 1, 3) := by decide +kernel
theorem dX10_ends_68 : decode cX10_ends 68 = .ok (.goto (-48), 3) := by decide +kernel
theorem dX10_ends_71 : decode cX10_ends 71 = .ok (.iload_n 2, 1) := by decide +kernel
theorem dX10_ends_72 : decode cX10_ends 72 = .ok (.ireturn, 1) := by decide +kernel
set_option maxRecDepth 20000 in
theorem ggX10_meet_X10_isAwake : GoodIn wsX10_meet wsX10_isAwake := goodIn_r _ [7, 8, 9, 10, 11, 6, 12, 13, 14, 15, 16, 17, 18, 19, 20, 21, 22, 23, 24, 25, 26, 27, 28, 29, 30, 31, 32, 33, 34, 35, 36, 37, 38] (by decide +kernel) (by decide +kernel)
set_option maxRecDepth 20000 in
theorem gX10_meet_X10_isAwake : GoodIn wsX10_meet (wsV RX10 139 RX10 yX10_isAwake wsX10_isAwake) := goodIn_app (goodIn_of _ (by decide +kernel)) ggX10_meet_X10_isAwake
theorem dX10_meet_0 : decode cX10_meet 0 = .ok (.aload_n 0, 1) := by decide +kernel
theorem dX10_meet_1 : decode cX10_meet 1 = .ok (.iload_n 1, 1) := by decide +kernel
theorem dX10_meet_2 : decode cX10_meet 2 = .ok (.invokevirtual 139, 3) := by decide +kernel
theorem dX10_meet_5 : decode cX10_meet 5 = .ok (.ifCond .eq 16, 3) := by decide +kernel
theorem dX10_meet_8 : decode cX10_meet 8 = .ok (.aload_n 0, 1) := by decide +kernel
theorem dX10_meet_9 : decode cX10_meet 9 = .ok (.iload_n 2, 1) := by decide +kernel
theorem dX10_meet_10 : decode cX10_meet 10 = .ok (.invokevirtual 139, 3) := by decide +kernel
theorem dX10_meet_13 : decode cX10_meet 13 = .ok (.ifCond .eq 8, 3) := by decide +kernel
theorem dX10_meet_16 : decode cX10_meet 16 = .ok (.iload_n 1, 1) := by decide +kernel
theorem dX10_meet_17 : decode cX10_meet 17 = .ok (.iload_n 2, 1) := by decide +kernel
theorem dX10_meet_18 : decode cX10_meet 18 = .ok (.if_icmp .ne 5, 3) := by decide +kernel
theorem dX10_meet_21 : decode cX10_meet 21 = .ok (.iconst (-1), 1) := by decide +kernel
theorem dX10_meet_22 : decode cX10_meet 22 = .ok (.ireturn, 1) := by decide +kernel
theorem dX10_meet_23 : decode cX10_meet 23 = .ok (.aload_n 0, 1) := by decide +kernel
theorem dX10_meet_24 : decode cX10_meet 24 = .ok (.getfield 7, 3) := by decide +kernel
theorem dX10_meet_27 : decode cX10_meet 27 = .ok (.iload_n 1, 1) := by decide +kernel
theorem dX10_meet_28 : decode cX10_meet 28 = .ok (.iaload, 1) := by decide +kernel
theorem dX10_meet_29 : decode cX10_meet 29 = .ok (.aload_n 0, 1) := by decide +kernel
theorem dX10_meet_30 : decode cX10_meet 30 = .ok (.getfield 7, 3) := by decide +kernel
theorem dX10_meet_33 : decode cX10_meet 33 = .ok (.iload_n 2, 1) := by decide +kernel
theorem dX10_meet_34 : decode cX10_meet 34 = .ok (.iaload, 1) := by decide +kernel
theorem dX10_meet_35 : decode cX10_meet 35 = .ok (.isub, 1) := by decide +kernel
theorem dX10_meet_36 : decode cX10_meet 36 = .ok (.istore_n 3, 1) := by decide +kernel
theorem dX10_meet_37 : decode cX10_meet 37 = .ok (.aload_n 0, 1) := by decide +kernel
theorem dX10_meet_38 : decode cX10_meet 38 = .ok (.getfield 13, 3) := by decide +kernel
theorem dX10_meet_41 : decode cX10_meet 41 = .ok (.iload_n 1, 1) := by decide +kernel
theorem dX10_meet_42 : decode cX10_meet 42 = .ok (.iaload, 1) := by decide +kernel
theorem dX10_meet_43 : decode cX10_meet 43 = .ok (.aload_n 0, 1) := by decide +kernel
theorem dX10_meet_44 : decode cX10_meet 44 = .ok (.getfield 13, 3) := by decide +kernel
theorem dX10_meet_47 : decode cX10_meet 47 = .ok (.iload_n 2, 1) := by decide +kernel
theorem dX10_meet_48 : decode cX10_meet 48 = .ok (.iaload, 1) := by decide +kernel
theorem dX10_meet_49 : decode cX10_meet 49 = .ok (.isub, 1) := by decide +kernel
theorem dX10_meet_50 : decode cX10_meet 50 = .ok (.istore 4, 2) := by decide +kernel
theorem dX10_meet_52 : decode cX10_meet 52 = .ok (.iload 4, 2) := by decide +kernel
theorem dX10_meet_54 : decode cX10_meet 54 = .ok (.ifCond .ne 16, 3) := by decide +kernel
theorem dX10_meet_57 : decode cX10_meet 57 = .ok (.iload_n 3, 1) := by decide +kernel
theorem dX10_meet_58 : decode cX10_meet 58 = .ok (.ifCond .ne 7, 3) := by decide +kernel
theorem dX10_meet_61 : decode cX10_meet 61 = .ok (.iconst 0, 1) := by decide +kernel
theorem dX10_meet_62 : decode cX10_meet 62 = .ok (.goto 24, 3) := by decide +kernel
theorem dX10_meet_65 : decode cX10_meet 65 = .ok (.bipush (-6), 2) := by decide +kernel
theorem dX10_meet_67 : decode cX10_meet 67 = .ok (.goto 19, 3) := by decide +kernel
theorem dX10_meet_70 : decode cX10_meet 70 = .ok (.iload_n 3, 1) := by decide +kernel
theorem dX10_meet_71 : decode cX10_meet 71 = .ok (.iload 4, 2) := by decide +kernel
theorem dX10_meet_73 : decode cX10_meet 73 = .ok (.irem, 1) := by decide +kernel
theorem dX10_meet_74 : decode cX10_meet 74 = .ok (.ifCond .ne 10, 3) := by decide +kernel
theorem dX10_meet_77 : decode cX10_meet 77 = .ok (.iload_n 3, 1) := by decide +kernel
theorem dX10_meet_78 : decode cX10_meet 78 = .ok (.iload 4, 2) := by decide +kernel
theorem dX10_meet_80 : decode cX10_meet 80 = .ok (.idiv, 1) := by decide +kernel
theorem dX10_meet_81 : decode cX10_meet 81 = .ok (.goto 5, 3) := by decide +kernel
theorem dX10_meet_84 : decode cX10_meet 84 = .ok (.bipush (-6), 2) := by decide +kernel
theorem dX10_meet_86 : decode cX10_meet 86 = .ok (.istore 5, 2) := by decide +kernel
theorem dX10_meet_88 : decode cX10_meet 88 = .ok (.iload 5, 2) := by decide +kernel
theorem dX10_meet_90 : decode cX10_meet 90 = .ok (.ifCond .lt 32, 3) := by decide +kernel
theorem dX10_meet_93 : decode cX10_meet 93 = .ok (.aload_n 0, 1) := by decide +kernel
theorem dX10_meet_94 : decode cX10_meet 94 = .ok (.getfield 7, 3) := by decide +kernel
theorem dX10_meet_97 : decode cX10_meet 97 = .ok (.iload_n 1, 1) := by decide +kernel
theorem dX10_meet_98 : decode cX10_meet 98 = .ok (.iaload, 1) := by decide +kernel
theorem dX10_meet_99 : decode cX10_meet 99 = .ok (.i2l, 1) := by decide +kernel
theorem dX10_meet_100 : decode cX10_meet 100 = .ok (.iload 5, 2) := by decide +kernel
theorem dX10_meet_102 : decode cX10_meet 102 = .ok (.i2l, 1) := by decide +kernel
theorem dX10_meet_103 : decode cX10_meet 103 = .ok (.aload_n 0, 1) := by decide +kernel
theorem dX10_meet_104 : decode cX10_meet 104 = .ok (.getfield 13, 3) := by decide +kernel
theorem dX10_meet_107 : decode cX10_meet 107 = .ok (.iload_n 1, 1) := by decide +kernel
theorem dX10_meet_108 : decode cX10_meet 108 = .ok (.iaload, 1) := by decide +kernel
theorem dX10_meet_109 : decode cX10_meet 109 = .ok (.i2l, 1) := by decide +kernel
theorem dX10_meet_110 : decode cX10_meet 110 = .ok (.lmul, 1) := by decide +kernel
theorem dX10_meet_111 : decode cX10_meet 111 = .ok (.lsub, 1) := by decide +kernel
theorem dX10_meet_112 : decode cX10_meet 112 = .ok (.lconst 0, 1) := by decide +kernel
theorem dX10_meet_113 : decode cX10_meet 113 = .ok (.lcmp, 1) := by decide +kernel
theorem dX10_meet_114 : decode cX10_meet 114 = .ok (.ifCond .le 8, 3) := by decide +kernel
theorem dX10_meet_117 : decode cX10_meet 117 = .ok (.iload 5, 2) := by decide +kernel
theorem dX10_meet_119 : decode cX10_meet 119 = .ok (.goto 5, 3) := by decide +kernel
theorem dX10_meet_122 : decode cX10_meet 122 = .ok (.bipush (-6), 2) := by decide +kernel
theorem dX10_meet_124 : decode cX10_meet 124 = .ok (.ireturn, 1) := by decide +kernel
theorem dX10_isPrime_0 : decode cX10_isPrime 0 = .ok (.iload_n 0, 1) := by decide +kernel
theorem dX10_isPrime_1 : decode cX10_isPrime 1 = .ok (.iconst 1, 1) := by decide +kernel
theorem dX10_isPrime_2 : decode cX10_isPrime 2 = .ok (.if_icmp .le 7, 3) := by decide +kernel
theorem dX10_isPrime_5 : decode cX10_isPrime 5 = .ok (.iconst 1, 1) := by decide +kernel
theorem dX10_isPrime_6 : decode cX10_isPrime 6 = .ok (.goto 4, 3) := by decide +kernel
theorem dX10_isPrime_9 : decode cX10_isPrime 9 = .ok (.iconst 0, 1) := by decide +kernel
theorem dX10_isPrime_10 : decode cX10_isPrime 10 = .ok (.istore_n 1, 1) := by decide +kernel
theorem dX10_isPrime_11 : decode cX10_isPrime 11 = .ok (.iconst 2, 1) := by decide +kernel
theorem dX10_isPrime_12 : decode cX10_isPrime 12 = .ok (.istore_n 2, 1) := by decide +kernel
theorem dX10_isPrime_13 : decode cX10_isPrime 13 = .ok (.iload_n 2, 1) := by decide +kernel
theorem dX10_isPrime_14 : decode cX10_isPrime 14 = .ok (.iload_n 2, 1) := by decide +kernel
theorem dX10_isPrime_15 : decode cX10_isPrime 15 = .ok (.imul, 1) := by decide +kernel
theorem dX10_isPrime_16 : decode cX10_isPrime 16 = .ok (.iload_n 0, 1) := by decide +kernel
theorem dX10_isPrime_17 : decode cX10_isPrime 17 = .ok (.if_icmp .gt 25, 3) := by decide +kernel
theorem dX10_isPrime_20 : decode cX10_isPrime 20 = .ok (.iload_n 1, 1) := by decide +kernel
theorem dX10_isPrime_21 : decode cX10_isPrime 21 = .ok (.ifCond .eq 21, 3) := by decide +kernel
theorem dX10_isPrime_24 : decode cX10_isPrime 24 = .ok (.iload_n 0, 1) := by decide +kernel
theorem dX10_isPrime_25 : decode cX10_isPrime 25 = .ok (.iload_n 2, 1) := by decide +kernel
theorem dX10_isPrime_26 : decode cX10_isPrime 26 = .ok (.irem, 1) := by decide +kernel
theorem dX10_isPrime_27 : decode cX10_isPrime 27 = .ok (.ifCond .eq 7, 3) := by decide +kernel
theorem dX10_isPrime_30 : decode cX10_isPrime 30 = .ok (.iconst 1, 1) := by decide +kernel
theorem dX10_isPrime_31 : decode cX10_isPrime 31 = .ok (.goto 4, 3) := by decide +kernel
theorem dX10_isPrime_34 : decode cX10_isPrime 34 = .ok (.iconst 0, 1) := by decide +kernel
theorem dX10_isPrime_35 : decode cX10_isPrime 35 = .ok (.istore_n 1, 1) := by decide +kernel
theorem dX10_isPrime_36 : decode cX10_isPrime 36 = .ok (.iinc 2 1, 3) := by decide +kernel
theorem dX10_isPrime_39 : decode cX10_isPrime 39 = .ok (.goto (-26), 3) := by decide +kernel
theorem dX10_isPrime_42 : decode cX10_isPrime 42 = .ok (.iload_n 1, 1) := by decide +kernel
theorem dX10_isPrime_43 : decode cX10_isPrime 43 = .ok (.ireturn, 1) := by decide +kernel
theorem dX10_isSquare_0 : decode cX10_isSquare 0 = .ok (.iconst 0, 1) := by decide +kernel
theorem dX10_isSquare_1 : decode cX10_isSquare 1 = .ok (.istore_n 1, 1) := by decide +kernel
theorem dX10_isSquare_2 : decode cX10_isSquare 2 = .ok (.iload_n 1, 1) := by decide +kernel
theorem dX10_isSquare_3 : decode cX10_isSquare 3 = .ok (.iload_n 1, 1) := by decide +kernel
theorem dX10_isSquare_4 : decode cX10_isSquare 4 = .ok (.imul, 1) := by decide +kernel
theorem dX10_isSquare_5 : decode cX10_isSquare 5 = .ok (.iload_n 0, 1) := by decide +kernel
theorem dX10_isSquare_6 : decode cX10_isSquare 6 = .ok (.if_icmp .ge 9, 3) := by decide +kernel
theorem dX10_isSquare_9 : decode cX10_isSquare 9 = .ok (.iinc 1 1, 3) := by decide +kernel
theorem dX10_isSquare_12 : decode cX10_isSquare 12 = .ok (.goto (-10), 3) := by decide +kernel
theorem dX10_isSquare_15 : decode cX10_isSquare 15 = .ok (.iload_n 1, 1) := by decide +kernel
theorem dX10_isSquare_16 : decode cX10_isSquare 16 = .ok (.iload_n 1, 1) := by decide +kernel
theorem dX10_isSquare_17 : decode cX10_isSquare 17 = .ok (.imul, 1) := by decide +kernel
theorem dX10_isSquare_18 : decode cX10_isSquare 18 = .ok (.iload_n 0, 1) := by decide +kernel
theorem dX10_isSquare_19 : decode cX10_isSquare 19 = .ok (.if_icmp .ne 7, 3) := by decide +kernel
theorem dX10_isSquare_22 : decode cX10_isSquare 22 = .ok (.iconst 1, 1) := by decide +kernel
theorem dX10_isSquare_23 : decode cX10_isSquare 23 = .ok (.goto 4, 3) := by decide +kernel
theorem dX10_isSquare_26 : decode cX10_isSquare 26 = .ok (.iconst 0, 1) := by decide +kernel
theorem dX10_isSquare_27 : decode cX10_isSquare 27 = .ok (.ireturn, 1) := by decide +kernel
theorem dX10_isAlikeBehind_0 : decode cX10_isAlikeBehind 0 = .ok (.iconst 0, 1) := by decide +kernel
theorem dX10_isAlikeBehind_1 : decode cX10_isAlikeBehind 1 = .ok (.istore_n 1, 1) := by decide +kernel
theorem dX10_isAlikeBehind_2 : decode cX10_isAlikeBehind 2 = .ok (.iload_n 0, 1) := by decide +kernel
theorem dX10_isAlikeBehind_3 : decode cX10_isAlikeBehind 3 = .ok (.istore_n 2, 1) := by decide +kernel
theorem dX10_isAlikeBehind_4 : decode cX10_isAlikeBehind 4 = .ok (.iload_n 2, 1) := by decide +kernel
theorem dX10_isAlikeBehind_5 : decode cX10_isAlikeBehind 5 = .ok (.ifCond .le 21, 3) := by decide +kernel
theorem dX10_isAlikeBehind_8 : decode cX10_isAlikeBehind 8 = .ok (.bipush 10, 2) := by decide +kernel
theorem dX10_isAlikeBehind_10 : decode cX10_isAlikeBehind 10 = .ok (.iload_n 1, 1) := by decide +kernel
theorem dX10_isAlikeBehind_11 : decode cX10_isAlikeBehind 11 = .ok (.imul, 1) := by decide +kernel
theorem dX10_isAlikeBehind_12 : decode cX10_isAlikeBehind 12 = .ok (.iload_n 2, 1) := by decide +kernel
theorem dX10_isAlikeBehind_13 : decode cX10_isAlikeBehind 13 = .ok (.bipush 10, 2) := by decide +kernel
theorem dX10_isAlikeBehind_15 : decode cX10_isAlikeBehind 15 = .ok (.irem, 1) := by decide +kernel
theorem dX10_isAlikeBehind_16 : decode cX10_isAlikeBehind 16 = .ok (.iadd, 1) := by decide +kernel
theorem dX10_isAlikeBehind_17 : decode cX10_isAlikeBehind 17 = .ok (.istore_n 1, 1) := by decide +kernel
theorem dX10_isAlikeBehind_18 : decode cX10_isAlikeBehind 18 = .ok (.iload_n 2, 1) := by decide +kernel
theorem dX10_isAlikeBehind_19 : decode cX10_isAlikeBehind 19 = .ok (.bipush 10, 2) := by decide +kernel
theorem dX10_isAlikeBehind_21 : decode cX10_isAlikeBehind 21 = .ok (.idiv, 1) := by decide +kernel
theorem dX10_isAlikeBehind_22 : decode cX10_isAlikeBehind 22 = .ok (.istore_n 2, 1) := by decide +kernel
theorem dX10_isAlikeBehind_23 : decode cX10_isAlikeBehind 23 = .ok (.goto (-19), 3) := by decide +kernel
theorem dX10_isAlikeBehind_26 : decode cX10_isAlikeBehind 26 = .ok (.iload_n 1, 1) := by decide +kernel
theorem dX10_isAlikeBehind_27 : decode cX10_isAlikeBehind 27 = .ok (.iload_n 0, 1) := by decide +kernel
theorem dX10_isAlikeBehind_28 : decode cX10_isAlikeBehind 28 = .ok (.if_icmp .ne 7, 3) := by decide +kernel
theorem dX10_isAlikeBehind_31 : decode cX10_isAlikeBehind 31 = .ok (.iconst 1, 1) := by decide +kernel
theorem dX10_isAlikeBehind_32 : decode cX10_isAlikeBehind 32 = .ok (.goto 4, 3) := by decide +kernel
theorem dX10_isAlikeBehind_35 : decode cX10_isAlikeBehind 35 = .ok (.iconst 0, 1) := by decide +kernel
theorem dX10_isAlikeBehind_36 : decode cX10_isAlikeBehind 36 = .ok (.ireturn, 1) := by decide +kernel
theorem dX10_isBySum_0 : decode cX10_isBySum 0 = .ok (.iconst 0, 1) := by decide +kernel
theorem dX10_isBySum_1 : decode cX10_isBySum 1 = .ok (.istore_n 1, 1) := by decide +kernel
theorem dX10_isBySum_2 : decode cX10_isBySum 2 = .ok (.iload_n 0, 1) := by decide +kernel
theorem dX10_isBySum_3 : decode cX10_isBySum 3 = .ok (.istore_n 2, 1) := by decide +kernel
theorem dX10_isBySum_4 : decode cX10_isBySum 4 = .ok (.iload_n 2, 1) := by decide +kernel
theorem dX10_isBySum_5 : decode cX10_isBySum 5 = .ok (.ifCond .le 18, 3) := by decide +kernel
theorem dX10_isBySum_8 : decode cX10_isBySum 8 = .ok (.iload_n 1, 1) := by decide +kernel
theorem dX10_isBySum_9 : decode cX10_isBySum 9 = .ok (.iload_n 2, 1) := by decide +kernel
theorem dX10_isBySum_10 : decode cX10_isBySum 10 = .ok (.bipush 10, 2) := by decide +kernel
theorem dX10_isBySum_12 : decode cX10_isBySum 12 = .ok (.irem, 1) := by decide +kernel
theorem dX10_isBySum_13 : decode cX10_isBySum 13 = .ok (.iadd, 1) := by decide +kernel
theorem dX10_isBySum_14 : decode cX10_isBySum 14 = .ok (.istore_n 1, 1) := by decide +kernel
theorem dX10_isBySum_15 : decode cX10_isBySum 15 = .ok (.iload_n 2, 1) := by decide +kernel
theorem dX10_isBySum_16 : decode cX10_isBySum 16 = .ok (.bipush 10, 2) := by decide +kernel
theorem dX10_isBySum_18 : decode cX10_isBySum 18 = .ok (.idiv, 1) := by decide +kernel
theorem dX10_isBySum_19 : decode cX10_isBySum 19 = .ok (.istore_n 2, 1) := by decide +kernel
theorem dX10_isBySum_20 : decode cX10_isBySum 20 = .ok (.goto (-16), 3) := by decide +kernel
theorem dX10_isBySum_23 : decode cX10_isBySum 23 = .ok (.iload_n 0, 1) := by decide +kernel
theorem dX10_isBySum_24 : decode cX10_isBySum 24 = .ok (.iload_n 1, 1) := by decide +kernel
theorem dX10_isBySum_25 : decode cX10_isBySum 25 = .ok (.irem, 1) := by decide +kernel
theorem dX10_isBySum_26 : decode cX10_isBySum 26 = .ok (.ifCond .ne 7, 3) := by decide +kernel
theorem dX10_isBySum_29 : decode cX10_isBySum 29 = .ok (.iconst 1, 1) := by decide +kernel
theorem dX10_isBySum_30 : decode cX10_isBySum 30 = .ok (.goto 4, 3) := by decide +kernel
theorem dX10_isBySum_33 : decode cX10_isBySum 33 = .ok (.iconst 0, 1) := by decide +kernel
theorem dX10_isBySum_34 : decode cX10_isBySum 34 = .ok (.ireturn, 1) := by decide +kernel
set_option maxRecDepth 20000 in
theorem ggX10_isLaw_X10_isPrime : GoodIn wsX10_isLaw wsX10_isPrime := goodIn_r _ [4] (by decide +kernel) (by decide +kernel)
set_option maxRecDepth 20000 in
theorem gX10_isLaw_X10_isPrime : GoodIn wsX10_isLaw (va_wsS RX10 142 yX10_isPrime wsX10_isPrime) := goodIn_app (goodIn_of _ (by decide +kernel)) ggX10_isLaw_X10_isPrime
set_option maxRecDepth 20000 in
theorem ggX10_isLaw_X10_isSquare : GoodIn wsX10_isLaw wsX10_isSquare := goodIn_r _ [7] (by decide +kernel) (by decide +kernel)
set_option maxRecDepth 20000 in
theorem gX10_isLaw_X10_isSquare : GoodIn wsX10_isLaw (va_wsS RX10 145 yX10_isSquare wsX10_isSquare) := goodIn_app (goodIn_of _ (by decide +kernel)) ggX10_isLaw_X10_isSquare
set_option maxRecDepth 20000 in
theorem ggX10_isLaw_X10_isAlikeBehind : GoodIn wsX10_isLaw wsX10_isAlikeBehind := goodIn_r _ [10] (by decide +kernel) (by decide +kernel)
set_option maxRecDepth 20000 in
theorem gX10_isLaw_X10_isAlikeBehind : GoodIn wsX10_isLaw (va_wsS RX10 148 yX10_isAlikeBehind wsX10_isAlikeBehind) := goodIn_app (goodIn_of _ (by decide +kernel)) ggX10_isLaw_X10_isAlikeBehind
set_option maxRecDepth 20000 in
theorem ggX10_isLaw_X10_isBySum : GoodIn wsX10_isLaw wsX10_isBySum := goodIn_r _ [13] (by decide +kernel) (by decide +kernel)
set_option maxRecDepth 20000 in
theorem gX10_isLaw_X10_isBySum : GoodIn wsX10_isLaw (va_wsS RX10 151 yX10_isBySum wsX10_isBySum) := goodIn_app (goodIn_of _ (by decide +kernel)) ggX10_isLaw_X10_isBySum
theorem dX10_isLaw_0 : decode cX10_isLaw 0 = .ok (.iload_n 1, 1) := by decide +kernel
theorem dX10_isLaw_1 : decode cX10_isLaw 1 = .ok (.iconst 1, 1) := by decide +kernel
theorem dX10_isLaw_2 : decode cX10_isLaw 2 = .ok (.if_icmp .ge 5, 3) := by decide +kernel
theorem dX10_isLaw_5 : decode cX10_isLaw 5 = .ok (.iconst 0, 1) := by decide +kernel
theorem dX10_isLaw_6 : decode cX10_isLaw 6 = .ok (.ireturn, 1) := by decide +kernel
theorem dX10_isLaw_7 : decode cX10_isLaw 7 = .ok (.iload_n 0, 1) := by decide +kernel
theorem dX10_isLaw_8 : decode cX10_isLaw 8 = .ok (.tableswitch 52 0 3 #[32, 37, 42, 47], 32) := by decide +kernel
theorem dX10_isLaw_40 : decode cX10_isLaw 40 = .ok (.iload_n 1, 1) := by decide +kernel
theorem dX10_isLaw_41 : decode cX10_isLaw 41 = .ok (.invokestatic 142, 3) := by decide +kernel
theorem dX10_isLaw_44 : decode cX10_isLaw 44 = .ok (.ireturn, 1) := by decide +kernel
theorem dX10_isLaw_45 : decode cX10_isLaw 45 = .ok (.iload_n 1, 1) := by decide +kernel
theorem dX10_isLaw_46 : decode cX10_isLaw 46 = .ok (.invokestatic 145, 3) := by decide +kernel
theorem dX10_isLaw_49 : decode cX10_isLaw 49 = .ok (.ireturn, 1) := by decide +kernel
theorem dX10_isLaw_50 : decode cX10_isLaw 50 = .ok (.iload_n 1, 1) := by decide +kernel
theorem dX10_isLaw_51 : decode cX10_isLaw 51 = .ok (.invokestatic 148, 3) := by decide +kernel
theorem dX10_isLaw_54 : decode cX10_isLaw 54 = .ok (.ireturn, 1) := by decide +kernel
theorem dX10_isLaw_55 : decode cX10_isLaw 55 = .ok (.iload_n 1, 1) := by decide +kernel
theorem dX10_isLaw_56 : decode cX10_isLaw 56 = .ok (.invokestatic 151, 3) := by decide +kernel
theorem dX10_isLaw_59 : decode cX10_isLaw 59 = .ok (.ireturn, 1) := by decide +kernel
theorem dX10_isLaw_60 : decode cX10_isLaw 60 = .ok (.iload_n 1, 1) := by decide +kernel
theorem dX10_isLaw_61 : decode cX10_isLaw 61 = .ok (.iload_n 1, 1) := by decide +kernel
theorem dX10_isLaw_62 : decode cX10_isLaw 62 = .ok (.iconst 1, 1) := by decide +kernel
theorem dX10_isLaw_63 : decode cX10_isLaw 63 = .ok (.isub, 1) := by decide +kernel
theorem dX10_isLaw_64 : decode cX10_isLaw 64 = .ok (.iand, 1) := by decide +kernel
theorem dX10_isLaw_65 : decode cX10_isLaw 65 = .ok (.ifCond .ne 7, 3) := by decide +kernel
theorem dX10_isLaw_68 : decode cX10_isLaw 68 = .ok (.iconst 1, 1) := by decide +kernel
theorem dX10_isLaw_69 : decode cX10_isLaw 69 = .ok (.goto 4, 3) := by decide +kernel
theorem dX10_isLaw_72 : decode cX10_isLaw 72 = .ok (.iconst 0, 1) := by decide +kernel
theorem dX10_isLaw_73 : decode cX10_isLaw 73 = .ok (.ireturn, 1) := by decide +kernel
set_option maxRecDepth 20000 in
theorem ggX10_bows_X10_in : GoodIn wsX10_bows wsX10_in := goodIn_r _ [5] (by decide +kernel) (by decide +kernel)
set_option maxRecDepth 20000 in
theorem gX10_bows_X10_in : GoodIn wsX10_bows (va_wsS RX10 43 yX10_in wsX10_in) := goodIn_app (goodIn_of _ (by decide +kernel)) ggX10_bows_X10_in
set_option maxRecDepth 20000 in
theorem ggX10_bows_X10_isLaw : GoodIn wsX10_bows wsX10_isLaw := goodIn_r _ [8, 9, 10, 4, 11, 12, 13, 14, 15, 16, 17, 18, 19, 20] (by decide +kernel) (by decide +kernel)
set_option maxRecDepth 20000 in
theorem gX10_bows_X10_isLaw : GoodIn wsX10_bows (va_wsS RX10 155 yX10_isLaw wsX10_isLaw) := goodIn_app (goodIn_of _ (by decide +kernel)) ggX10_bows_X10_isLaw
theorem dX10_bows_0 : decode cX10_bows 0 = .ok (.iload_n 1, 1) := by decide +kernel
theorem dX10_bows_1 : decode cX10_bows 1 = .ok (.iconst 0, 1) := by decide +kernel
theorem dX10_bows_2 : decode cX10_bows 2 = .ok (.iconst 4, 1) := by decide +kernel
theorem dX10_bows_3 : decode cX10_bows 3 = .ok (.invokestatic 43, 3) := by decide +kernel
theorem dX10_bows_6 : decode cX10_bows 6 = .ok (.ifCond .eq 23, 3) := by decide +kernel
theorem dX10_bows_9 : decode cX10_bows 9 = .ok (.iload_n 2, 1) := by decide +kernel
theorem dX10_bows_10 : decode cX10_bows 10 = .ok (.iconst 1, 1) := by decide +kernel
theorem dX10_bows_11 : decode cX10_bows 11 = .ok (.ldc 154, 2) := by decide +kernel
theorem dX10_bows_13 : decode cX10_bows 13 = .ok (.invokestatic 43, 3) := by decide +kernel
theorem dX10_bows_16 : decode cX10_bows 16 = .ok (.ifCond .eq 13, 3) := by decide +kernel
theorem dX10_bows_19 : decode cX10_bows 19 = .ok (.iload_n 3, 1) := by decide +kernel
theorem dX10_bows_20 : decode cX10_bows 20 = .ok (.iconst 1, 1) := by decide +kernel
theorem dX10_bows_21 : decode cX10_bows 21 = .ok (.ldc 154, 2) := by decide +kernel
theorem dX10_bows_23 : decode cX10_bows 23 = .ok (.invokestatic 43, 3) := by decide +kernel
theorem dX10_bows_26 : decode cX10_bows 26 = .ok (.ifCond .ne 6, 3) := by decide +kernel
theorem dX10_bows_29 : decode cX10_bows 29 = .ok (.bipush (-2), 2) := by decide +kernel
theorem dX10_bows_31 : decode cX10_bows 31 = .ok (.ireturn, 1) := by decide +kernel
theorem dX10_bows_32 : decode cX10_bows 32 = .ok (.iconst 0, 1) := by decide +kernel
theorem dX10_bows_33 : decode cX10_bows 33 = .ok (.istore 4, 2) := by decide +kernel
theorem dX10_bows_35 : decode cX10_bows 35 = .ok (.iload_n 2, 1) := by decide +kernel
theorem dX10_bows_36 : decode cX10_bows 36 = .ok (.istore 5, 2) := by decide +kernel
theorem dX10_bows_38 : decode cX10_bows 38 = .ok (.iload 5, 2) := by decide +kernel
theorem dX10_bows_40 : decode cX10_bows 40 = .ok (.iload_n 3, 1) := by decide +kernel
theorem dX10_bows_41 : decode cX10_bows 41 = .ok (.if_icmp .gt 28, 3) := by decide +kernel
theorem dX10_bows_44 : decode cX10_bows 44 = .ok (.iload 4, 2) := by decide +kernel
theorem dX10_bows_46 : decode cX10_bows 46 = .ok (.iload_n 1, 1) := by decide +kernel
theorem dX10_bows_47 : decode cX10_bows 47 = .ok (.iload 5, 2) := by decide +kernel
theorem dX10_bows_49 : decode cX10_bows 49 = .ok (.invokestatic 155, 3) := by decide +kernel
theorem dX10_bows_52 : decode cX10_bows 52 = .ok (.ifCond .eq 7, 3) := by decide +kernel
theorem dX10_bows_55 : decode cX10_bows 55 = .ok (.iconst 1, 1) := by decide +kernel
theorem dX10_bows_56 : decode cX10_bows 56 = .ok (.goto 4, 3) := by decide +kernel
theorem dX10_bows_59 : decode cX10_bows 59 = .ok (.iconst 0, 1) := by decide +kernel
theorem dX10_bows_60 : decode cX10_bows 60 = .ok (.iadd, 1) := by decide +kernel
theorem dX10_bows_61 : decode cX10_bows 61 = .ok (.istore 4, 2) := by decide +kernel
theorem dX10_bows_63 : decode cX10_bows 63 = .ok (.iinc 5 1, 3) := by decide +kernel
theorem dX10_bows_66 : decode cX10_bows 66 = .ok (.goto (-28), 3) := by decide +kernel
theorem dX10_bows_69 : decode cX10_bows 69 = .ok (.iload 4, 2) := by decide +kernel
theorem dX10_bows_71 : decode cX10_bows 71 = .ok (.ireturn, 1) := by decide +kernel
set_option maxRecDepth 20000 in
theorem ggX10_next_X10_in : GoodIn wsX10_next wsX10_in := goodIn_r _ [5] (by decide +kernel) (by decide +kernel)
set_option maxRecDepth 20000 in
theorem gX10_next_X10_in : GoodIn wsX10_next (va_wsS RX10 43 yX10_in wsX10_in) := goodIn_app (goodIn_of _ (by decide +kernel)) ggX10_next_X10_in
set_option maxRecDepth 20000 in
theorem ggX10_next_X10_isLaw : GoodIn wsX10_next wsX10_isLaw := goodIn_r _ [8, 9, 10, 4, 11, 12, 13, 14, 15, 16, 17, 18, 19, 20] (by decide +kernel) (by decide +kernel)
set_option maxRecDepth 20000 in
theorem gX10_next_X10_isLaw : GoodIn wsX10_next (va_wsS RX10 155 yX10_isLaw wsX10_isLaw) := goodIn_app (goodIn_of _ (by decide +kernel)) ggX10_next_X10_isLaw
theorem dX10_next_0 : decode cX10_next 0 = .ok (.iload_n 1, 1) := by decide +kernel
theorem dX10_next_1 : decode cX10_next 1 = .ok (.iconst 0, 1) := by decide +kernel
theorem dX10_next_2 : decode cX10_next 2 = .ok (.iconst 4, 1) := by decide +kernel
theorem dX10_next_3 : decode cX10_next 3 = .ok (.invokestatic 43, 3) := by decide +kernel
theorem dX10_next_6 : decode cX10_next 6 = .ok (.ifCond .eq 13, 3) := by decide +kernel
theorem dX10_next_9 : decode cX10_next 9 = .ok (.iload_n 2, 1) := by decide +kernel
theorem dX10_next_10 : decode cX10_next 10 = .ok (.iconst 0, 1) := by decide +kernel
theorem dX10_next_11 : decode cX10_next 11 = .ok (.ldc 16, 2) := by decide +kernel
theorem dX10_next_13 : decode cX10_next 13 = .ok (.invokestatic 43, 3) := by decide +kernel
theorem dX10_next_16 : decode cX10_next 16 = .ok (.ifCond .ne 6, 3) := by decide +kernel
theorem dX10_next_19 : decode cX10_next 19 = .ok (.bipush (-2), 2) := by decide +kernel
theorem dX10_next_21 : decode cX10_next 21 = .ok (.ireturn, 1) := by decide +kernel
theorem dX10_next_22 : decode cX10_next 22 = .ok (.iload_n 2, 1) := by decide +kernel
theorem dX10_next_23 : decode cX10_next 23 = .ok (.istore_n 3, 1) := by decide +kernel
theorem dX10_next_24 : decode cX10_next 24 = .ok (.iload_n 3, 1) := by decide +kernel
theorem dX10_next_25 : decode cX10_next 25 = .ok (.ifCond .le 19, 3) := by decide +kernel
theorem dX10_next_28 : decode cX10_next 28 = .ok (.iload_n 1, 1) := by decide +kernel
theorem dX10_next_29 : decode cX10_next 29 = .ok (.iload_n 3, 1) := by decide +kernel
theorem dX10_next_30 : decode cX10_next 30 = .ok (.invokestatic 155, 3) := by decide +kernel
theorem dX10_next_33 : decode cX10_next 33 = .ok (.ifCond .eq 5, 3) := by decide +kernel
theorem dX10_next_36 : decode cX10_next 36 = .ok (.iload_n 3, 1) := by decide +kernel
theorem dX10_next_37 : decode cX10_next 37 = .ok (.ireturn, 1) := by decide +kernel
theorem dX10_next_38 : decode cX10_next 38 = .ok (.iinc 3 (-1), 3) := by decide +kernel
theorem dX10_next_41 : decode cX10_next 41 = .ok (.goto (-17), 3) := by decide +kernel
theorem dX10_next_44 : decode cX10_next 44 = .ok (.bipush (-6), 2) := by decide +kernel
theorem dX10_next_46 : decode cX10_next 46 = .ok (.ireturn, 1) := by decide +kernel
set_option maxRecDepth 20000 in
theorem ggX10_elbows_X10_in : GoodIn wsX10_elbows wsX10_in := goodIn_r _ [7] (by decide +kernel) (by decide +kernel)
set_option maxRecDepth 20000 in
theorem gX10_elbows_X10_in : GoodIn wsX10_elbows (va_wsS RX10 43 yX10_in wsX10_in) := goodIn_app (goodIn_of _ (by decide +kernel)) ggX10_elbows_X10_in
set_option maxRecDepth 20000 in
theorem ggX10_elbows_X10_asNow : GoodIn wsX10_elbows wsX10_asNow := goodIn_r _ [11, 1, 2, 3, 12, 21, 22, 23, 24, 25, 26, 27, 28, 29, 30, 31, 32, 33, 34, 35, 36, 37, 38, 39] (by decide +kernel) (by decide +kernel)
set_option maxRecDepth 20000 in
theorem gX10_elbows_X10_asNow : GoodIn wsX10_elbows (wsV RX10 83 RX10 yX10_asNow wsX10_asNow) := goodIn_app (goodIn_of _ (by decide +kernel)) ggX10_elbows_X10_asNow
set_option maxRecDepth 20000 in
theorem ggX10_elbows_X10_common : GoodIn wsX10_elbows wsX10_common := goodIn_r _ [16, 17, 2, 3, 18, 19, 6, 20, 21, 22, 23, 24, 25, 26, 27, 28, 29, 30, 31, 32, 33, 34, 35, 36, 37, 38, 39] (by decide +kernel) (by decide +kernel)
set_option maxRecDepth 20000 in
theorem gX10_elbows_X10_common : GoodIn wsX10_elbows (wsV RX10 80 RX10 yX10_common wsX10_common) := goodIn_app (goodIn_of _ (by decide +kernel)) ggX10_elbows_X10_common
set_option maxRecDepth 20000 in
theorem ggX10_elbows_X10_has : GoodIn wsX10_elbows wsX10_has := goodIn_r _ [20] (by decide +kernel) (by decide +kernel)
set_option maxRecDepth 20000 in
theorem gX10_elbows_X10_has : GoodIn wsX10_elbows (va_wsS RX10 47 yX10_has wsX10_has) := goodIn_app (goodIn_of _ (by decide +kernel)) ggX10_elbows_X10_has
theorem dX10_elbows_0 : decode cX10_elbows 0 = .ok (.iload_n 1, 1) := by decide +kernel
theorem dX10_elbows_1 : decode cX10_elbows 1 = .ok (.iconst 0, 1) := by decide +kernel
theorem dX10_elbows_2 : decode cX10_elbows 2 = .ok (.iconst 1, 1) := by decide +kernel
theorem dX10_elbows_3 : decode cX10_elbows 3 = .ok (.invokestatic 43, 3) := by decide +kernel
theorem dX10_elbows_6 : decode cX10_elbows 6 = .ok (.ifCond .ne 6, 3) := by decide +kernel
theorem dX10_elbows_9 : decode cX10_elbows 9 = .ok (.bipush (-2), 2) := by decide +kernel
theorem dX10_elbows_11 : decode cX10_elbows 11 = .ok (.ireturn, 1) := by decide +kernel
theorem dX10_elbows_12 : decode cX10_elbows 12 = .ok (.aload_n 0, 1) := by decide +kernel
theorem dX10_elbows_13 : decode cX10_elbows 13 = .ok (.getfield 55, 3) := by decide +kernel
theorem dX10_elbows_16 : decode cX10_elbows 16 = .ok (.ifCond .ne 6, 3) := by decide +kernel
theorem dX10_elbows_19 : decode cX10_elbows 19 = .ok (.bipush (-6), 2) := by decide +kernel
theorem dX10_elbows_21 : decode cX10_elbows 21 = .ok (.ireturn, 1) := by decide +kernel
theorem dX10_elbows_22 : decode cX10_elbows 22 = .ok (.aload_n 0, 1) := by decide +kernel
theorem dX10_elbows_23 : decode cX10_elbows 23 = .ok (.invokevirtual 83, 3) := by decide +kernel
theorem dX10_elbows_26 : decode cX10_elbows 26 = .ok (.aload_n 0, 1) := by decide +kernel
theorem dX10_elbows_27 : decode cX10_elbows 27 = .ok (.invokevirtual 80, 3) := by decide +kernel
theorem dX10_elbows_30 : decode cX10_elbows 30 = .ok (.istore_n 2, 1) := by decide +kernel
theorem dX10_elbows_31 : decode cX10_elbows 31 = .ok (.iconst 0, 1) := by decide +kernel
theorem dX10_elbows_32 : decode cX10_elbows 32 = .ok (.istore_n 3, 1) := by decide +kernel
theorem dX10_elbows_33 : decode cX10_elbows 33 = .ok (.iconst 0, 1) := by decide +kernel
theorem dX10_elbows_34 : decode cX10_elbows 34 = .ok (.istore 4, 2) := by decide +kernel
theorem dX10_elbows_36 : decode cX10_elbows 36 = .ok (.iload 4, 2) := by decide +kernel
theorem dX10_elbows_38 : decode cX10_elbows 38 = .ok (.bipush 8, 2) := by decide +kernel
theorem dX10_elbows_40 : decode cX10_elbows 40 = .ok (.if_icmp .ge 40, 3) := by decide +kernel
theorem dX10_elbows_43 : decode cX10_elbows 43 = .ok (.iload_n 3, 1) := by decide +kernel
theorem dX10_elbows_44 : decode cX10_elbows 44 = .ok (.aload_n 0, 1) := by decide +kernel
theorem dX10_elbows_45 : decode cX10_elbows 45 = .ok (.getfield 72, 3) := by decide +kernel
theorem dX10_elbows_48 : decode cX10_elbows 48 = .ok (.iload 4, 2) := by decide +kernel
theorem dX10_elbows_50 : decode cX10_elbows 50 = .ok (.invokestatic 47, 3) := by decide +kernel
theorem dX10_elbows_53 : decode cX10_elbows 53 = .ok (.ifCond .eq 18, 3) := by decide +kernel
theorem dX10_elbows_56 : decode cX10_elbows 56 = .ok (.aload_n 0, 1) := by decide +kernel
theorem dX10_elbows_57 : decode cX10_elbows 57 = .ok (.getfield 30, 3) := by decide +kernel
theorem dX10_elbows_60 : decode cX10_elbows 60 = .ok (.iload 4, 2) := by decide +kernel
theorem dX10_elbows_62 : decode cX10_elbows 62 = .ok (.iaload, 1) := by decide +kernel
theorem dX10_elbows_63 : decode cX10_elbows 63 = .ok (.iload_n 2, 1) := by decide +kernel
theorem dX10_elbows_64 : decode cX10_elbows 64 = .ok (.if_icmp .eq 7, 3) := by decide +kernel
theorem dX10_elbows_67 : decode cX10_elbows 67 = .ok (.iconst 1, 1) := by decide +kernel
theorem dX10_elbows_68 : decode cX10_elbows 68 = .ok (.goto 4, 3) := by decide +kernel
theorem dX10_elbows_71 : decode cX10_elbows 71 = .ok (.iconst 0, 1) := by decide +kernel
theorem dX10_elbows_72 : decode cX10_elbows 72 = .ok (.iadd, 1) := by decide +kernel
theorem dX10_elbows_73 : decode cX10_elbows 73 = .ok (.istore_n 3, 1) := by decide +kernel
theorem dX10_elbows_74 : decode cX10_elbows 74 = .ok (.iinc 4 1, 3) := by decide +kernel
theorem dX10_elbows_77 : decode cX10_elbows 77 = .ok (.goto (-41), 3) := by decide +kernel
theorem dX10_elbows_80 : decode cX10_elbows 80 = .ok (.iload_n 1, 1) := by decide +kernel
theorem dX10_elbows_81 : decode cX10_elbows 81 = .ok (.ifCond .ne 7, 3) := by decide +kernel
theorem dX10_elbows_84 : decode cX10_elbows 84 = .ok (.iload_n 3, 1) := by decide +kernel
theorem dX10_elbows_85 : decode cX10_elbows 85 = .ok (.goto 4, 3) := by decide +kernel
theorem dX10_elbows_88 : decode cX10_elbows 88 = .ok (.iload_n 2, 1) := by decide +kernel
theorem dX10_elbows_89 : decode cX10_elbows 89 = .ok (.ireturn, 1) := by decide +kernel
set_option maxRecDepth 20000 in
theorem ggX10_relays_X10_in : GoodIn wsX10_relays wsX10_in := goodIn_r _ [5] (by decide +kernel) (by decide +kernel)
set_option maxRecDepth 20000 in
theorem gX10_relays_X10_in : GoodIn wsX10_relays (va_wsS RX10 43 yX10_in wsX10_in) := goodIn_app (goodIn_of _ (by decide +kernel)) ggX10_relays_X10_in
set_option maxRecDepth 20000 in
theorem ggX10_relays_X10_bits : GoodIn wsX10_relays wsX10_bits := goodIn_r _ [8] (by decide +kernel) (by decide +kernel)
set_option maxRecDepth 20000 in
theorem gX10_relays_X10_bits : GoodIn wsX10_relays (va_wsS RX10 58 yX10_bits wsX10_bits) := goodIn_app (goodIn_of _ (by decide +kernel)) ggX10_relays_X10_bits
theorem dX10_relays_0 : decode cX10_relays 0 = .ok (.iload_n 1, 1) := by decide +kernel
theorem dX10_relays_1 : decode cX10_relays 1 = .ok (.iconst 1, 1) := by decide +kernel
theorem dX10_relays_2 : decode cX10_relays 2 = .ok (.bipush 8, 2) := by decide +kernel
theorem dX10_relays_4 : decode cX10_relays 4 = .ok (.invokestatic 43, 3) := by decide +kernel
theorem dX10_relays_7 : decode cX10_relays 7 = .ok (.ifCond .eq 33, 3) := by decide +kernel
theorem dX10_relays_10 : decode cX10_relays 10 = .ok (.iload_n 2, 1) := by decide +kernel
theorem dX10_relays_11 : decode cX10_relays 11 = .ok (.iconst 1, 1) := by decide +kernel
theorem dX10_relays_12 : decode cX10_relays 12 = .ok (.bipush 24, 2) := by decide +kernel
theorem dX10_relays_14 : decode cX10_relays 14 = .ok (.invokestatic 43, 3) := by decide +kernel
theorem dX10_relays_17 : decode cX10_relays 17 = .ok (.ifCond .eq 23, 3) := by decide +kernel
theorem dX10_relays_20 : decode cX10_relays 20 = .ok (.iload_n 3, 1) := by decide +kernel
theorem dX10_relays_21 : decode cX10_relays 21 = .ok (.iconst 1, 1) := by decide +kernel
theorem dX10_relays_22 : decode cX10_relays 22 = .ok (.bipush 24, 2) := by decide +kernel
theorem dX10_relays_24 : decode cX10_relays 24 = .ok (.invokestatic 43, 3) := by decide +kernel
theorem dX10_relays_27 : decode cX10_relays 27 = .ok (.ifCond .eq 13, 3) := by decide +kernel
theorem dX10_relays_30 : decode cX10_relays 30 = .ok (.iload 4, 2) := by decide +kernel
theorem dX10_relays_32 : decode cX10_relays 32 = .ok (.iconst 0, 1) := by decide +kernel
theorem dX10_relays_33 : decode cX10_relays 33 = .ok (.iconst 1, 1) := by decide +kernel
theorem dX10_relays_34 : decode cX10_relays 34 = .ok (.invokestatic 43, 3) := by decide +kernel
theorem dX10_relays_37 : decode cX10_relays 37 = .ok (.ifCond .ne 6, 3) := by decide +kernel
theorem dX10_relays_40 : decode cX10_relays 40 = .ok (.bipush (-2), 2) := by decide +kernel
theorem dX10_relays_42 : decode cX10_relays 42 = .ok (.ireturn, 1) := by decide +kernel
theorem dX10_relays_43 : decode cX10_relays 43 = .ok (.iload_n 2, 1) := by decide +kernel
theorem dX10_relays_44 : decode cX10_relays 44 = .ok (.iconst 1, 1) := by decide +kernel
theorem dX10_relays_45 : decode cX10_relays 45 = .ok (.if_icmp .ne 7, 3) := by decide +kernel
theorem dX10_relays_48 : decode cX10_relays 48 = .ok (.iload_n 1, 1) := by decide +kernel
theorem dX10_relays_49 : decode cX10_relays 49 = .ok (.goto 6, 3) := by decide +kernel
theorem dX10_relays_52 : decode cX10_relays 52 = .ok (.iconst 2, 1) := by decide +kernel
theorem dX10_relays_53 : decode cX10_relays 53 = .ok (.iload_n 1, 1) := by decide +kernel
theorem dX10_relays_54 : decode cX10_relays 54 = .ok (.imul, 1) := by decide +kernel
theorem dX10_relays_55 : decode cX10_relays 55 = .ok (.istore 5, 2) := by decide +kernel
theorem dX10_relays_57 : decode cX10_relays 57 = .ok (.iload 5, 2) := by decide +kernel
theorem dX10_relays_59 : decode cX10_relays 59 = .ok (.iload_n 3, 1) := by decide +kernel
theorem dX10_relays_60 : decode cX10_relays 60 = .ok (.imul, 1) := by decide +kernel
theorem dX10_relays_61 : decode cX10_relays 61 = .ok (.iload_n 1, 1) := by decide +kernel
theorem dX10_relays_62 : decode cX10_relays 62 = .ok (.iload_n 2, 1) := by decide +kernel
theorem dX10_relays_63 : decode cX10_relays 63 = .ok (.imul, 1) := by decide +kernel
theorem dX10_relays_64 : decode cX10_relays 64 = .ok (.if_icmp .ge 9, 3) := by decide +kernel
theorem dX10_relays_67 : decode cX10_relays 67 = .ok (.iinc 5 1, 3) := by decide +kernel
theorem dX10_relays_70 : decode cX10_relays 70 = .ok (.goto (-13), 3) := by decide +kernel
theorem dX10_relays_73 : decode cX10_relays 73 = .ok (.iload 4, 2) := by decide +kernel
theorem dX10_relays_75 : decode cX10_relays 75 = .ok (.iconst 1, 1) := by decide +kernel
theorem dX10_relays_76 : decode cX10_relays 76 = .ok (.if_icmp .ne 20, 3) := by decide +kernel
theorem dX10_relays_79 : decode cX10_relays 79 = .ok (.iload 5, 2) := by decide +kernel
theorem dX10_relays_81 : decode cX10_relays 81 = .ok (.bipush 8, 2) := by decide +kernel
theorem dX10_relays_83 : decode cX10_relays 83 = .ok (.if_icmp .le 8, 3) := by decide +kernel
theorem dX10_relays_86 : decode cX10_relays 86 = .ok (.bipush (-6), 2) := by decide +kernel
theorem dX10_relays_88 : decode cX10_relays 88 = .ok (.goto 25, 3) := by decide +kernel
theorem dX10_relays_91 : decode cX10_relays 91 = .ok (.iload 5, 2) := by decide +kernel
theorem dX10_relays_93 : decode cX10_relays 93 = .ok (.goto 20, 3) := by decide +kernel
theorem dX10_relays_96 : decode cX10_relays 96 = .ok (.aload_n 0, 1) := by decide +kernel
theorem dX10_relays_97 : decode cX10_relays 97 = .ok (.getfield 40, 3) := by decide +kernel
theorem dX10_relays_100 : decode cX10_relays 100 = .ok (.invokestatic 58, 3) := by decide +kernel
theorem dX10_relays_103 : decode cX10_relays 103 = .ok (.iload 5, 2) := by decide +kernel
theorem dX10_relays_105 : decode cX10_relays 105 = .ok (.if_icmp .lt 7, 3) := by decide +kernel
theorem dX10_relays_108 : decode cX10_relays 108 = .ok (.iconst 1, 1) := by decide +kernel
theorem dX10_relays_109 : decode cX10_relays 109 = .ok (.goto 4, 3) := by decide +kernel
theorem dX10_relays_112 : decode cX10_relays 112 = .ok (.iconst 0, 1) := by decide +kernel
theorem dX10_relays_113 : decode cX10_relays 113 = .ok (.ireturn, 1) := by decide +kernel
set_option maxRecDepth 20000 in
theorem ggX10_beads_X10_in : GoodIn wsX10_beads wsX10_in := goodIn_r _ [5] (by decide +kernel) (by decide +kernel)
set_option maxRecDepth 20000 in
theorem gX10_beads_X10_in : GoodIn wsX10_beads (va_wsS RX10 43 yX10_in wsX10_in) := goodIn_app (goodIn_of _ (by decide +kernel)) ggX10_beads_X10_in
theorem dX10_beads_0 : decode cX10_beads 0 = .ok (.iload_n 1, 1) := by decide +kernel
theorem dX10_beads_1 : decode cX10_beads 1 = .ok (.iconst 0, 1) := by decide +kernel
theorem dX10_beads_2 : decode cX10_beads 2 = .ok (.sipush 200, 3) := by decide +kernel
theorem dX10_beads_5 : decode cX10_beads 5 = .ok (.invokestatic 43, 3) := by decide +kernel
theorem dX10_beads_8 : decode cX10_beads 8 = .ok (.ifCond .eq 12, 3) := by decide +kernel
theorem dX10_beads_11 : decode cX10_beads 11 = .ok (.iload_n 2, 1) := by decide +kernel
theorem dX10_beads_12 : decode cX10_beads 12 = .ok (.iconst 0, 1) := by decide +kernel
theorem dX10_beads_13 : decode cX10_beads 13 = .ok (.iconst 1, 1) := by decide +kernel
theorem dX10_beads_14 : decode cX10_beads 14 = .ok (.invokestatic 43, 3) := by decide +kernel
theorem dX10_beads_17 : decode cX10_beads 17 = .ok (.ifCond .ne 6, 3) := by decide +kernel
theorem dX10_beads_20 : decode cX10_beads 20 = .ok (.bipush (-2), 2) := by decide +kernel
theorem dX10_beads_22 : decode cX10_beads 22 = .ok (.ireturn, 1) := by decide +kernel
theorem dX10_beads_23 : decode cX10_beads 23 = .ok (.iconst 0, 1) := by decide +kernel
theorem dX10_beads_24 : decode cX10_beads 24 = .ok (.istore_n 3, 1) := by decide +kernel
theorem dX10_beads_25 : decode cX10_beads 25 = .ok (.ldc 75, 2) := by decide +kernel
theorem dX10_beads_27 : decode cX10_beads 27 = .ok (.istore 4, 2) := by decide +kernel
theorem dX10_beads_29 : decode cX10_beads 29 = .ok (.iconst 0, 1) := by decide +kernel
theorem dX10_beads_30 : decode cX10_beads 30 = .ok (.istore 5, 2) := by decide +kernel
theorem dX10_beads_32 : decode cX10_beads 32 = .ok (.iconst 5, 1) := by decide +kernel
theorem dX10_beads_33 : decode cX10_beads 33 = .ok (.iload 5, 2) := by decide +kernel
theorem dX10_beads_35 : decode cX10_beads 35 = .ok (.imul, 1) := by decide +kernel
theorem dX10_beads_36 : decode cX10_beads 36 = .ok (.iload_n 1, 1) := by decide +kernel
theorem dX10_beads_37 : decode cX10_beads 37 = .ok (.if_icmp .gt 91, 3) := by decide +kernel
theorem dX10_beads_40 : decode cX10_beads 40 = .ok (.iconst 0, 1) := by decide +kernel
theorem dX10_beads_41 : decode cX10_beads 41 = .ok (.istore 6, 2) := by decide +kernel
theorem dX10_beads_43 : decode cX10_beads 43 = .ok (.iconst 5, 1) := by decide +kernel
theorem dX10_beads_44 : decode cX10_beads 44 = .ok (.iload 5, 2) := by decide +kernel
theorem dX10_beads_46 : decode cX10_beads 46 = .ok (.imul, 1) := by decide +kernel
theorem dX10_beads_47 : decode cX10_beads 47 = .ok (.bipush 7, 2) := by decide +kernel
theorem dX10_beads_49 : decode cX10_beads 49 = .ok (.iload 6, 2) := by decide +kernel
theorem dX10_beads_51 : decode cX10_beads 51 = .ok (.imul, 1) := by decide +kernel
theorem dX10_beads_52 : decode cX10_beads 52 = .ok (.iadd, 1) := by decide +kernel
theorem dX10_beads_53 : decode cX10_beads 53 = .ok (.iload_n 1, 1) := by decide +kernel
theorem dX10_beads_54 : decode cX10_beads 54 = .ok (.if_icmp .gt 68, 3) := by decide +kernel
theorem dX10_beads_57 : decode cX10_beads 57 = .ok (.iload_n 1, 1) := by decide +kernel
theorem dX10_beads_58 : decode cX10_beads 58 = .ok (.iconst 5, 1) := by decide +kernel
theorem dX10_beads_59 : decode cX10_beads 59 = .ok (.iload 5, 2) := by decide +kernel
theorem dX10_beads_61 : decode cX10_beads 61 = .ok (.imul, 1) := by decide +kernel
theorem dX10_beads_62 : decode cX10_beads 62 = .ok (.isub, 1) := by decide +kernel
theorem dX10_beads_63 : decode cX10_beads 63 = .ok (.bipush 7, 2) := by decide +kernel
theorem dX10_beads_65 : decode cX10_beads 65 = .ok (.iload 6, 2) := by decide +kernel
theorem dX10_beads_67 : decode cX10_beads 67 = .ok (.imul, 1) := by decide +kernel
theorem dX10_beads_68 : decode cX10_beads 68 = .ok (.isub, 1) := by decide +kernel
theorem dX10_beads_69 : decode cX10_beads 69 = .ok (.istore 7, 2) := by decide +kernel
theorem dX10_beads_71 : decode cX10_beads 71 = .ok (.iload 7, 2) := by decide +kernel
theorem dX10_beads_73 : decode cX10_beads 73 = .ok (.bipush 12, 2) := by decide +kernel
theorem dX10_beads_75 : decode cX10_beads 75 = .ok (.irem, 1) := by decide +kernel
theorem dX10_beads_76 : decode cX10_beads 76 = .ok (.ifCond .ne 40, 3) := by decide +kernel
theorem dX10_beads_79 : decode cX10_beads 79 = .ok (.iinc 3 1, 3) := by decide +kernel
theorem dX10_beads_82 : decode cX10_beads 82 = .ok (.iload 5, 2) := by decide +kernel
theorem dX10_beads_84 : decode cX10_beads 84 = .ok (.iload 6, 2) := by decide +kernel
theorem dX10_beads_86 : decode cX10_beads 86 = .ok (.iadd, 1) := by decide +kernel
theorem dX10_beads_87 : decode cX10_beads 87 = .ok (.iload 7, 2) := by decide +kernel
theorem dX10_beads_89 : decode cX10_beads 89 = .ok (.bipush 12, 2) := by decide +kernel
theorem dX10_beads_91 : decode cX10_beads 91 = .ok (.idiv, 1) := by decide +kernel
theorem dX10_beads_92 : decode cX10_beads 92 = .ok (.iadd, 1) := by decide +kernel
theorem dX10_beads_93 : decode cX10_beads 93 = .ok (.iload 4, 2) := by decide +kernel
theorem dX10_beads_95 : decode cX10_beads 95 = .ok (.if_icmp .ge 17, 3) := by decide +kernel
theorem dX10_beads_98 : decode cX10_beads 98 = .ok (.iload 5, 2) := by decide +kernel
theorem dX10_beads_100 : decode cX10_beads 100 = .ok (.iload 6, 2) := by decide +kernel
theorem dX10_beads_102 : decode cX10_beads 102 = .ok (.iadd, 1) := by decide +kernel
theorem dX10_beads_103 : decode cX10_beads 103 = .ok (.iload 7, 2) := by decide +kernel
theorem dX10_beads_105 : decode cX10_beads 105 = .ok (.bipush 12, 2) := by decide +kernel
theorem dX10_beads_107 : decode cX10_beads 107 = .ok (.idiv, 1) := by decide +kernel
theorem dX10_beads_108 : decode cX10_beads 108 = .ok (.iadd, 1) := by decide +kernel
theorem dX10_beads_109 : decode cX10_beads 109 = .ok (.goto 5, 3) := by decide +kernel
theorem dX10_beads_112 : decode cX10_beads 112 = .ok (.iload 4, 2) := by decide +kernel
theorem dX10_beads_114 : decode cX10_beads 114 = .ok (.istore 4, 2) := by decide +kernel
theorem dX10_beads_116 : decode cX10_beads 116 = .ok (.iinc 6 1, 3) := by decide +kernel
theorem dX10_beads_119 : decode cX10_beads 119 = .ok (.goto (-76), 3) := by decide +kernel
theorem dX10_beads_122 : decode cX10_beads 122 = .ok (.iinc 5 1, 3) := by decide +kernel
theorem dX10_beads_125 : decode cX10_beads 125 = .ok (.goto (-93), 3) := by decide +kernel
theorem dX10_beads_128 : decode cX10_beads 128 = .ok (.iload_n 2, 1) := by decide +kernel
theorem dX10_beads_129 : decode cX10_beads 129 = .ok (.iconst 1, 1) := by decide +kernel
theorem dX10_beads_130 : decode cX10_beads 130 = .ok (.if_icmp .ne 7, 3) := by decide +kernel
theorem dX10_beads_133 : decode cX10_beads 133 = .ok (.iload_n 3, 1) := by decide +kernel
theorem dX10_beads_134 : decode cX10_beads 134 = .ok (.goto 17, 3) := by decide +kernel
theorem dX10_beads_137 : decode cX10_beads 137 = .ok (.iload 4, 2) := by decide +kernel
theorem dX10_beads_139 : decode cX10_beads 139 = .ok (.ldc 75, 2) := by decide +kernel
theorem dX10_beads_141 : decode cX10_beads 141 = .ok (.if_icmp .ne 8, 3) := by decide +kernel
theorem dX10_beads_144 : decode cX10_beads 144 = .ok (.bipush (-6), 2) := by decide +kernel
theorem dX10_beads_146 : decode cX10_beads 146 = .ok (.goto 5, 3) := by decide +kernel
theorem dX10_beads_149 : decode cX10_beads 149 = .ok (.iload 4, 2) := by decide +kernel
theorem dX10_beads_151 : decode cX10_beads 151 = .ok (.ireturn, 1) := by decide +kernel
set_option maxRecDepth 20000 in
theorem ggX10_seen_X10_isThere : GoodIn wsX10_seen wsX10_isThere := goodIn_r _ [7, 8, 9, 10, 6, 11, 12, 13, 14, 15, 16, 17, 18, 19, 20, 21, 22, 23, 24, 25, 26, 27, 28, 29, 30, 31, 32, 33] (by decide +kernel) (by decide +kernel)
set_option maxRecDepth 20000 in
theorem gX10_seen_X10_isThere : GoodIn wsX10_seen (wsV RX10 51 RX10 yX10_isThere wsX10_isThere) := goodIn_app (goodIn_of _ (by decide +kernel)) ggX10_seen_X10_isThere
set_option maxRecDepth 20000 in
theorem ggX10_seen_X10_in : GoodIn wsX10_seen wsX10_in := goodIn_r _ [11] (by decide +kernel) (by decide +kernel)
set_option maxRecDepth 20000 in
theorem gX10_seen_X10_in : GoodIn wsX10_seen (va_wsS RX10 43 yX10_in wsX10_in) := goodIn_app (goodIn_of _ (by decide +kernel)) ggX10_seen_X10_in
theorem dX10_seen_0 : decode cX10_seen 0 = .ok (.aload_n 0, 1) := by decide +kernel
theorem dX10_seen_1 : decode cX10_seen 1 = .ok (.iload_n 1, 1) := by decide +kernel
theorem dX10_seen_2 : decode cX10_seen 2 = .ok (.invokevirtual 51, 3) := by decide +kernel
theorem dX10_seen_5 : decode cX10_seen 5 = .ok (.ifCond .ne 5, 3) := by decide +kernel
theorem dX10_seen_8 : decode cX10_seen 8 = .ok (.iconst (-1), 1) := by decide +kernel
theorem dX10_seen_9 : decode cX10_seen 9 = .ok (.ireturn, 1) := by decide +kernel
theorem dX10_seen_10 : decode cX10_seen 10 = .ok (.iload_n 2, 1) := by decide +kernel
theorem dX10_seen_11 : decode cX10_seen 11 = .ok (.iconst 0, 1) := by decide +kernel
theorem dX10_seen_12 : decode cX10_seen 12 = .ok (.bipush 99, 2) := by decide +kernel
theorem dX10_seen_14 : decode cX10_seen 14 = .ok (.invokestatic 43, 3) := by decide +kernel
theorem dX10_seen_17 : decode cX10_seen 17 = .ok (.ifCond .ne 6, 3) := by decide +kernel
theorem dX10_seen_20 : decode cX10_seen 20 = .ok (.bipush (-2), 2) := by decide +kernel
theorem dX10_seen_22 : decode cX10_seen 22 = .ok (.ireturn, 1) := by decide +kernel
theorem dX10_seen_23 : decode cX10_seen 23 = .ok (.aload_n 0, 1) := by decide +kernel
theorem dX10_seen_24 : decode cX10_seen 24 = .ok (.getfield 158, 3) := by decide +kernel
theorem dX10_seen_27 : decode cX10_seen 27 = .ok (.bipush 8, 2) := by decide +kernel
theorem dX10_seen_29 : decode cX10_seen 29 = .ok (.if_icmp .ne 6, 3) := by decide +kernel
theorem dX10_seen_32 : decode cX10_seen 32 = .ok (.bipush (-4), 2) := by decide +kernel
theorem dX10_seen_34 : decode cX10_seen 34 = .ok (.ireturn, 1) := by decide +kernel
theorem dX10_seen_35 : decode cX10_seen 35 = .ok (.aload_n 0, 1) := by decide +kernel
theorem dX10_seen_36 : decode cX10_seen 36 = .ok (.getfield 24, 3) := by decide +kernel
theorem dX10_seen_39 : decode cX10_seen 39 = .ok (.iconst 3, 1) := by decide +kernel
theorem dX10_seen_40 : decode cX10_seen 40 = .ok (.aload_n 0, 1) := by decide +kernel
theorem dX10_seen_41 : decode cX10_seen 41 = .ok (.getfield 158, 3) := by decide +kernel
theorem dX10_seen_44 : decode cX10_seen 44 = .ok (.imul, 1) := by decide +kernel
theorem dX10_seen_45 : decode cX10_seen 45 = .ok (.iload_n 1, 1) := by decide +kernel
theorem dX10_seen_46 : decode cX10_seen 46 = .ok (.iastore, 1) := by decide +kernel
theorem dX10_seen_47 : decode cX10_seen 47 = .ok (.aload_n 0, 1) := by decide +kernel
theorem dX10_seen_48 : decode cX10_seen 48 = .ok (.getfield 24, 3) := by decide +kernel
theorem dX10_seen_51 : decode cX10_seen 51 = .ok (.iconst 3, 1) := by decide +kernel
theorem dX10_seen_52 : decode cX10_seen 52 = .ok (.aload_n 0, 1) := by decide +kernel
theorem dX10_seen_53 : decode cX10_seen 53 = .ok (.getfield 158, 3) := by decide +kernel
theorem dX10_seen_56 : decode cX10_seen 56 = .ok (.imul, 1) := by decide +kernel
theorem dX10_seen_57 : decode cX10_seen 57 = .ok (.iconst 1, 1) := by decide +kernel
theorem dX10_seen_58 : decode cX10_seen 58 = .ok (.iadd, 1) := by decide +kernel
theorem dX10_seen_59 : decode cX10_seen 59 = .ok (.iload_n 2, 1) := by decide +kernel
theorem dX10_seen_60 : decode cX10_seen 60 = .ok (.iastore, 1) := by decide +kernel
theorem dX10_seen_61 : decode cX10_seen 61 = .ok (.aload_n 0, 1) := by decide +kernel
theorem dX10_seen_62 : decode cX10_seen 62 = .ok (.getfield 24, 3) := by decide +kernel
theorem dX10_seen_65 : decode cX10_seen 65 = .ok (.iconst 3, 1) := by decide +kernel
theorem dX10_seen_66 : decode cX10_seen 66 = .ok (.aload_n 0, 1) := by decide +kernel
theorem dX10_seen_67 : decode cX10_seen 67 = .ok (.getfield 158, 3) := by decide +kernel
theorem dX10_seen_70 : decode cX10_seen 70 = .ok (.imul, 1) := by decide +kernel
theorem dX10_seen_71 : decode cX10_seen 71 = .ok (.iconst 2, 1) := by decide +kernel
theorem dX10_seen_72 : decode cX10_seen 72 = .ok (.iadd, 1) := by decide +kernel
theorem dX10_seen_73 : decode cX10_seen 73 = .ok (.iload_n 3, 1) := by decide +kernel
theorem dX10_seen_74 : decode cX10_seen 74 = .ok (.ifCond .eq 7, 3) := by decide +kernel
theorem dX10_seen_77 : decode cX10_seen 77 = .ok (.iconst 1, 1) := by decide +kernel
theorem dX10_seen_78 : decode cX10_seen 78 = .ok (.goto 4, 3) := by decide +kernel
theorem dX10_seen_81 : decode cX10_seen 81 = .ok (.iconst 0, 1) := by decide +kernel
theorem dX10_seen_82 : decode cX10_seen 82 = .ok (.iastore, 1) := by decide +kernel
theorem dX10_seen_83 : decode cX10_seen 83 = .ok (.aload_n 0, 1) := by decide +kernel
theorem dX10_seen_84 : decode cX10_seen 84 = .ok (.dup, 1) := by decide +kernel
theorem dX10_seen_85 : decode cX10_seen 85 = .ok (.getfield 158, 3) := by decide +kernel
theorem dX10_seen_88 : decode cX10_seen 88 = .ok (.iconst 1, 1) := by decide +kernel
theorem dX10_seen_89 : decode cX10_seen 89 = .ok (.iadd, 1) := by decide +kernel
theorem dX10_seen_90 : decode cX10_seen 90 = .ok (.putfield 158, 3) := by decide +kernel
theorem dX10_seen_93 : decode cX10_seen 93 = .ok (.aload_n 0, 1) := by decide +kernel
theorem dX10_seen_94 : decode cX10_seen 94 = .ok (.getfield 158, 3) := by decide +kernel
theorem dX10_seen_97 : decode cX10_seen 97 = .ok (.ireturn, 1) := by decide +kernel
theorem dX10_forget_0 : decode cX10_forget 0 = .ok (.aload_n 0, 1) := by decide +kernel
theorem dX10_forget_1 : decode cX10_forget 1 = .ok (.getfield 158, 3) := by decide +kernel
theorem dX10_forget_4 : decode cX10_forget 4 = .ok (.istore_n 1, 1) := by decide +kernel
theorem dX10_forget_5 : decode cX10_forget 5 = .ok (.aload_n 0, 1) := by decide +kernel
theorem dX10_forget_6 : decode cX10_forget 6 = .ok (.iconst 0, 1) := by decide +kernel
theorem dX10_forget_7 : decode cX10_forget 7 = .ok (.putfield 158, 3) := by decide +kernel
theorem dX10_forget_10 : decode cX10_forget 10 = .ok (.iload_n 1, 1) := by decide +kernel
theorem dX10_forget_11 : decode cX10_forget 11 = .ok (.ireturn, 1) := by decide +kernel
set_option maxRecDepth 20000 in
theorem ggX10_doesBow_X10_isAwake : GoodIn wsX10_doesBow wsX10_isAwake := goodIn_r _ [7, 8, 9, 10, 11, 6, 12, 13, 14, 15, 16, 17, 18, 19, 35, 36, 37, 38, 39, 40, 41, 42, 43, 44, 45, 46, 47, 48, 49, 50, 51, 52, 53] (by decide +kernel) (by decide +kernel)
set_option maxRecDepth 20000 in
theorem gX10_doesBow_X10_isAwake : GoodIn wsX10_doesBow (wsV RX10 139 RX10 yX10_isAwake wsX10_isAwake) := goodIn_app (goodIn_of _ (by decide +kernel)) ggX10_doesBow_X10_isAwake
set_option maxRecDepth 20000 in
theorem ggX10_doesBow_X10_isLaw : GoodIn wsX10_doesBow wsX10_isLaw := goodIn_r _ [22, 23, 24, 6, 25, 26, 27, 28, 29, 30, 31, 32, 33, 34] (by decide +kernel) (by decide +kernel)
set_option maxRecDepth 20000 in
theorem gX10_doesBow_X10_isLaw : GoodIn wsX10_doesBow (va_wsS RX10 155 yX10_isLaw wsX10_isLaw) := goodIn_app (goodIn_of _ (by decide +kernel)) ggX10_doesBow_X10_isLaw
theorem dX10_doesBow_0 : decode cX10_doesBow 0 = .ok (.aload_n 0, 1) := by decide +kernel
theorem dX10_doesBow_1 : decode cX10_doesBow 1 = .ok (.iload_n 2, 1) := by decide +kernel
theorem dX10_doesBow_2 : decode cX10_doesBow 2 = .ok (.invokevirtual 139, 3) := by decide +kernel
theorem dX10_doesBow_5 : decode cX10_doesBow 5 = .ok (.ifCond .ne 5, 3) := by decide +kernel
theorem dX10_doesBow_8 : decode cX10_doesBow 8 = .ok (.iconst 0, 1) := by decide +kernel
theorem dX10_doesBow_9 : decode cX10_doesBow 9 = .ok (.ireturn, 1) := by decide +kernel
theorem dX10_doesBow_10 : decode cX10_doesBow 10 = .ok (.aload_n 0, 1) := by decide +kernel
theorem dX10_doesBow_11 : decode cX10_doesBow 11 = .ok (.getfield 7, 3) := by decide +kernel
theorem dX10_doesBow_14 : decode cX10_doesBow 14 = .ok (.iload_n 2, 1) := by decide +kernel
theorem dX10_doesBow_15 : decode cX10_doesBow 15 = .ok (.iaload, 1) := by decide +kernel
theorem dX10_doesBow_16 : decode cX10_doesBow 16 = .ok (.iload_n 2, 1) := by decide +kernel
theorem dX10_doesBow_17 : decode cX10_doesBow 17 = .ok (.iload 4, 2) := by decide +kernel
theorem dX10_doesBow_19 : decode cX10_doesBow 19 = .ok (.if_icmp .ne 8, 3) := by decide +kernel
theorem dX10_doesBow_22 : decode cX10_doesBow 22 = .ok (.iload 5, 2) := by decide +kernel
theorem dX10_doesBow_24 : decode cX10_doesBow 24 = .ok (.goto 4, 3) := by decide +kernel
theorem dX10_doesBow_27 : decode cX10_doesBow 27 = .ok (.iconst 0, 1) := by decide +kernel
theorem dX10_doesBow_28 : decode cX10_doesBow 28 = .ok (.isub, 1) := by decide +kernel
theorem dX10_doesBow_29 : decode cX10_doesBow 29 = .ok (.istore 6, 2) := by decide +kernel
theorem dX10_doesBow_31 : decode cX10_doesBow 31 = .ok (.iload 6, 2) := by decide +kernel
theorem dX10_doesBow_33 : decode cX10_doesBow 33 = .ok (.ifCond .le 8, 3) := by decide +kernel
theorem dX10_doesBow_36 : decode cX10_doesBow 36 = .ok (.iload 6, 2) := by decide +kernel
theorem dX10_doesBow_38 : decode cX10_doesBow 38 = .ok (.goto 4, 3) := by decide +kernel
theorem dX10_doesBow_41 : decode cX10_doesBow 41 = .ok (.iconst 0, 1) := by decide +kernel
theorem dX10_doesBow_42 : decode cX10_doesBow 42 = .ok (.iload_n 3, 1) := by decide +kernel
theorem dX10_doesBow_43 : decode cX10_doesBow 43 = .ok (.aload_n 0, 1) := by decide +kernel
theorem dX10_doesBow_44 : decode cX10_doesBow 44 = .ok (.getfield 13, 3) := by decide +kernel
theorem dX10_doesBow_47 : decode cX10_doesBow 47 = .ok (.iload_n 2, 1) := by decide +kernel
theorem dX10_doesBow_48 : decode cX10_doesBow 48 = .ok (.iaload, 1) := by decide +kernel
theorem dX10_doesBow_49 : decode cX10_doesBow 49 = .ok (.imul, 1) := by decide +kernel
theorem dX10_doesBow_50 : decode cX10_doesBow 50 = .ok (.isub, 1) := by decide +kernel
theorem dX10_doesBow_51 : decode cX10_doesBow 51 = .ok (.istore 7, 2) := by decide +kernel
theorem dX10_doesBow_53 : decode cX10_doesBow 53 = .ok (.iload 7, 2) := by decide +kernel
theorem dX10_doesBow_55 : decode cX10_doesBow 55 = .ok (.ifCond .le 16, 3) := by decide +kernel
theorem dX10_doesBow_58 : decode cX10_doesBow 58 = .ok (.iload_n 1, 1) := by decide +kernel
theorem dX10_doesBow_59 : decode cX10_doesBow 59 = .ok (.iload 7, 2) := by decide +kernel
theorem dX10_doesBow_61 : decode cX10_doesBow 61 = .ok (.invokestatic 155, 3) := by decide +kernel
theorem dX10_doesBow_64 : decode cX10_doesBow 64 = .ok (.ifCond .eq 7, 3) := by decide +kernel
theorem dX10_doesBow_67 : decode cX10_doesBow 67 = .ok (.iconst 1, 1) := by decide +kernel
theorem dX10_doesBow_68 : decode cX10_doesBow 68 = .ok (.goto 4, 3) := by decide +kernel
theorem dX10_doesBow_71 : decode cX10_doesBow 71 = .ok (.iconst 0, 1) := by decide +kernel
theorem dX10_doesBow_72 : decode cX10_doesBow 72 = .ok (.ireturn, 1) := by decide +kernel
set_option maxRecDepth 20000 in
theorem ggX10_isWorld_X10_doesBow : GoodIn wsX10_isWorld wsX10_doesBow := goodIn_r _ [7, 8, 9, 10, 11, 12, 6, 13, 14, 15, 16, 17, 18, 19, 20, 21, 22, 23, 24, 25, 26, 27, 28, 29, 30, 31, 32, 33, 34, 35, 36, 37, 38, 39, 40, 41, 42, 43, 44, 45, 46, 47, 48, 49, 50, 51, 52, 53, 54, 55, 56, 57, 58, 59] (by decide +kernel) (by decide +kernel)
set_option maxRecDepth 20000 in
theorem gX10_isWorld_X10_doesBow : GoodIn wsX10_isWorld (wsV RX10 161 RX10 yX10_doesBow wsX10_doesBow) := goodIn_app (goodIn_of _ (by decide +kernel)) ggX10_isWorld_X10_doesBow
theorem dX10_isWorld_0 : decode cX10_isWorld 0 = .ok (.iconst 1, 1) := by decide +kernel
theorem dX10_isWorld_1 : decode cX10_isWorld 1 = .ok (.istore 4, 2) := by decide +kernel
theorem dX10_isWorld_3 : decode cX10_isWorld 3 = .ok (.iconst 0, 1) := by decide +kernel
theorem dX10_isWorld_4 : decode cX10_isWorld 4 = .ok (.istore 5, 2) := by decide +kernel
theorem dX10_isWorld_6 : decode cX10_isWorld 6 = .ok (.iload 5, 2) := by decide +kernel
theorem dX10_isWorld_8 : decode cX10_isWorld 8 = .ok (.aload_n 0, 1) := by decide +kernel
theorem dX10_isWorld_9 : decode cX10_isWorld 9 = .ok (.getfield 158, 3) := by decide +kernel
theorem dX10_isWorld_12 : decode cX10_isWorld 12 = .ok (.if_icmp .ge 71, 3) := by decide +kernel
theorem dX10_isWorld_15 : decode cX10_isWorld 15 = .ok (.iload 4, 2) := by decide +kernel
theorem dX10_isWorld_17 : decode cX10_isWorld 17 = .ok (.ifCond .eq 66, 3) := by decide +kernel
theorem dX10_isWorld_20 : decode cX10_isWorld 20 = .ok (.aload_n 0, 1) := by decide +kernel
theorem dX10_isWorld_21 : decode cX10_isWorld 21 = .ok (.iload_n 1, 1) := by decide +kernel
theorem dX10_isWorld_22 : decode cX10_isWorld 22 = .ok (.aload_n 0, 1) := by decide +kernel
theorem dX10_isWorld_23 : decode cX10_isWorld 23 = .ok (.getfield 24, 3) := by decide +kernel
theorem dX10_isWorld_26 : decode cX10_isWorld 26 = .ok (.iconst 3, 1) := by decide +kernel
theorem dX10_isWorld_27 : decode cX10_isWorld 27 = .ok (.iload 5, 2) := by decide +kernel
theorem dX10_isWorld_29 : decode cX10_isWorld 29 = .ok (.imul, 1) := by decide +kernel
theorem dX10_isWorld_30 : decode cX10_isWorld 30 = .ok (.iaload, 1) := by decide +kernel
theorem dX10_isWorld_31 : decode cX10_isWorld 31 = .ok (.aload_n 0, 1) := by decide +kernel
theorem dX10_isWorld_32 : decode cX10_isWorld 32 = .ok (.getfield 24, 3) := by decide +kernel
theorem dX10_isWorld_35 : decode cX10_isWorld 35 = .ok (.iconst 3, 1) := by decide +kernel
theorem dX10_isWorld_36 : decode cX10_isWorld 36 = .ok (.iload 5, 2) := by decide +kernel
theorem dX10_isWorld_38 : decode cX10_isWorld 38 = .ok (.imul, 1) := by decide +kernel
theorem dX10_isWorld_39 : decode cX10_isWorld 39 = .ok (.iconst 1, 1) := by decide +kernel
theorem dX10_isWorld_40 : decode cX10_isWorld 40 = .ok (.iadd, 1) := by decide +kernel
theorem dX10_isWorld_41 : decode cX10_isWorld 41 = .ok (.iaload, 1) := by decide +kernel
theorem dX10_isWorld_42 : decode cX10_isWorld 42 = .ok (.iload_n 2, 1) := by decide +kernel
theorem dX10_isWorld_43 : decode cX10_isWorld 43 = .ok (.iload_n 3, 1) := by decide +kernel
theorem dX10_isWorld_44 : decode cX10_isWorld 44 = .ok (.invokevirtual 161, 3) := by decide +kernel
theorem dX10_isWorld_47 : decode cX10_isWorld 47 = .ok (.aload_n 0, 1) := by decide +kernel
theorem dX10_isWorld_48 : decode cX10_isWorld 48 = .ok (.getfield 24, 3) := by decide +kernel
theorem dX10_isWorld_51 : decode cX10_isWorld 51 = .ok (.iconst 3, 1) := by decide +kernel
theorem dX10_isWorld_52 : decode cX10_isWorld 52 = .ok (.iload 5, 2) := by decide +kernel
theorem dX10_isWorld_54 : decode cX10_isWorld 54 = .ok (.imul, 1) := by decide +kernel
theorem dX10_isWorld_55 : decode cX10_isWorld 55 = .ok (.iconst 2, 1) := by decide +kernel
theorem dX10_isWorld_56 : decode cX10_isWorld 56 = .ok (.iadd, 1) := by decide +kernel
theorem dX10_isWorld_57 : decode cX10_isWorld 57 = .ok (.iaload, 1) := by decide +kernel
theorem dX10_isWorld_58 : decode cX10_isWorld 58 = .ok (.iconst 1, 1) := by decide +kernel
theorem dX10_isWorld_59 : decode cX10_isWorld 59 = .ok (.if_icmp .ne 7, 3) := by decide +kernel
theorem dX10_isWorld_62 : decode cX10_isWorld 62 = .ok (.iconst 1, 1) := by decide +kernel
theorem dX10_isWorld_63 : decode cX10_isWorld 63 = .ok (.goto 4, 3) := by decide +kernel
theorem dX10_isWorld_66 : decode cX10_isWorld 66 = .ok (.iconst 0, 1) := by decide +kernel
theorem dX10_isWorld_67 : decode cX10_isWorld 67 = .ok (.if_icmp .ne 7, 3) := by decide +kernel
theorem dX10_isWorld_70 : decode cX10_isWorld 70 = .ok (.iconst 1, 1) := by decide +kernel
theorem dX10_isWorld_71 : decode cX10_isWorld 71 = .ok (.goto 4, 3) := by decide +kernel
theorem dX10_isWorld_74 : decode cX10_isWorld 74 = .ok (.iconst 0, 1) := by decide +kernel
theorem dX10_isWorld_75 : decode cX10_isWorld 75 = .ok (.istore 4, 2) := by decide +kernel
theorem dX10_isWorld_77 : decode cX10_isWorld 77 = .ok (.iinc 5 1, 3) := by decide +kernel
theorem dX10_isWorld_80 : decode cX10_isWorld 80 = .ok (.goto (-74), 3) := by decide +kernel
theorem dX10_isWorld_83 : decode cX10_isWorld 83 = .ok (.iload 4, 2) := by decide +kernel
theorem dX10_isWorld_85 : decode cX10_isWorld 85 = .ok (.ireturn, 1) := by decide +kernel
set_option maxRecDepth 20000 in
theorem ggX10_skips_X10_in : GoodIn wsX10_skips wsX10_in := goodIn_r _ [5] (by decide +kernel) (by decide +kernel)
set_option maxRecDepth 20000 in
theorem gX10_skips_X10_in : GoodIn wsX10_skips (va_wsS RX10 43 yX10_in wsX10_in) := goodIn_app (goodIn_of _ (by decide +kernel)) ggX10_skips_X10_in
set_option maxRecDepth 20000 in
theorem ggX10_skips_X10_isWorld : GoodIn wsX10_skips wsX10_isWorld := goodIn_r _ [9, 10, 11, 12, 13, 14, 4, 15, 16, 17, 18, 19, 20, 21, 1, 22, 23, 24, 25, 26, 2, 3, 5, 27, 28, 29, 30, 31, 32, 33, 34, 35, 36, 37, 38, 39, 40, 41, 42, 43, 44, 45, 46, 47, 48, 49, 50, 51, 52, 53, 54, 55, 56, 57, 58, 59, 60, 61, 62, 63] (by decide +kernel) (by decide +kernel)
set_option maxRecDepth 20000 in
theorem gX10_skips_X10_isWorld : GoodIn wsX10_skips (wsV RX10 165 RX10 yX10_isWorld wsX10_isWorld) := goodIn_app (goodIn_of _ (by decide +kernel)) ggX10_skips_X10_isWorld
set_option maxRecDepth 20000 in
theorem ggX10_skips_X10_has : GoodIn wsX10_skips wsX10_has := goodIn_r _ [29] (by decide +kernel) (by decide +kernel)
set_option maxRecDepth 20000 in
theorem gX10_skips_X10_has : GoodIn wsX10_skips (va_wsS RX10 47 yX10_has wsX10_has) := goodIn_app (goodIn_of _ (by decide +kernel)) ggX10_skips_X10_has
theorem dX10_skips_0 : decode cX10_skips 0 = .ok (.iload_n 1, 1) := by decide +kernel
theorem dX10_skips_1 : decode cX10_skips 1 = .ok (.iconst 0, 1) := by decide +kernel
theorem dX10_skips_2 : decode cX10_skips 2 = .ok (.iconst 4, 1) := by decide +kernel
theorem dX10_skips_3 : decode cX10_skips 3 = .ok (.invokestatic 43, 3) := by decide +kernel
theorem dX10_skips_6 : decode cX10_skips 6 = .ok (.ifCond .eq 12, 3) := by decide +kernel
theorem dX10_skips_9 : decode cX10_skips 9 = .ok (.iload_n 2, 1) := by decide +kernel
theorem dX10_skips_10 : decode cX10_skips 10 = .ok (.iconst 0, 1) := by decide +kernel
theorem dX10_skips_11 : decode cX10_skips 11 = .ok (.iconst 2, 1) := by decide +kernel
theorem dX10_skips_12 : decode cX10_skips 12 = .ok (.invokestatic 43, 3) := by decide +kernel
theorem dX10_skips_15 : decode cX10_skips 15 = .ok (.ifCond .ne 6, 3) := by decide +kernel
theorem dX10_skips_18 : decode cX10_skips 18 = .ok (.bipush (-2), 2) := by decide +kernel
theorem dX10_skips_20 : decode cX10_skips 20 = .ok (.ireturn, 1) := by decide +kernel
theorem dX10_skips_21 : decode cX10_skips 21 = .ok (.aload_n 0, 1) := by decide +kernel
theorem dX10_skips_22 : decode cX10_skips 22 = .ok (.iload_n 1, 1) := by decide +kernel
theorem dX10_skips_23 : decode cX10_skips 23 = .ok (.bipush (-6), 2) := by decide +kernel
theorem dX10_skips_25 : decode cX10_skips 25 = .ok (.iconst 0, 1) := by decide +kernel
theorem dX10_skips_26 : decode cX10_skips 26 = .ok (.invokevirtual 165, 3) := by decide +kernel
theorem dX10_skips_29 : decode cX10_skips 29 = .ok (.istore_n 3, 1) := by decide +kernel
theorem dX10_skips_30 : decode cX10_skips 30 = .ok (.iload_n 3, 1) := by decide +kernel
theorem dX10_skips_31 : decode cX10_skips 31 = .ok (.ifCond .eq 7, 3) := by decide +kernel
theorem dX10_skips_34 : decode cX10_skips 34 = .ok (.iconst 1, 1) := by decide +kernel
theorem dX10_skips_35 : decode cX10_skips 35 = .ok (.goto 4, 3) := by decide +kernel
theorem dX10_skips_38 : decode cX10_skips 38 = .ok (.iconst 0, 1) := by decide +kernel
theorem dX10_skips_39 : decode cX10_skips 39 = .ok (.istore 4, 2) := by decide +kernel
theorem dX10_skips_41 : decode cX10_skips 41 = .ok (.iconst 0, 1) := by decide +kernel
theorem dX10_skips_42 : decode cX10_skips 42 = .ok (.istore 5, 2) := by decide +kernel
theorem dX10_skips_44 : decode cX10_skips 44 = .ok (.iconst 0, 1) := by decide +kernel
theorem dX10_skips_45 : decode cX10_skips 45 = .ok (.istore 6, 2) := by decide +kernel
theorem dX10_skips_47 : decode cX10_skips 47 = .ok (.iload 6, 2) := by decide +kernel
theorem dX10_skips_49 : decode cX10_skips 49 = .ok (.bipush 8, 2) := by decide +kernel
theorem dX10_skips_51 : decode cX10_skips 51 = .ok (.if_icmp .ge 61, 3) := by decide +kernel
theorem dX10_skips_54 : decode cX10_skips 54 = .ok (.iconst 1, 1) := by decide +kernel
theorem dX10_skips_55 : decode cX10_skips 55 = .ok (.istore 7, 2) := by decide +kernel
theorem dX10_skips_57 : decode cX10_skips 57 = .ok (.iload 7, 2) := by decide +kernel
theorem dX10_skips_59 : decode cX10_skips 59 = .ok (.bipush 10, 2) := by decide +kernel
theorem dX10_skips_61 : decode cX10_skips 61 = .ok (.if_icmp .ge 45, 3) := by decide +kernel
theorem dX10_skips_64 : decode cX10_skips 64 = .ok (.aload_n 0, 1) := by decide +kernel
theorem dX10_skips_65 : decode cX10_skips 65 = .ok (.getfield 55, 3) := by decide +kernel
theorem dX10_skips_68 : decode cX10_skips 68 = .ok (.iload 6, 2) := by decide +kernel
theorem dX10_skips_70 : decode cX10_skips 70 = .ok (.invokestatic 47, 3) := by decide +kernel
theorem dX10_skips_73 : decode cX10_skips 73 = .ok (.ifCond .eq 33, 3) := by decide +kernel
theorem dX10_skips_76 : decode cX10_skips 76 = .ok (.aload_n 0, 1) := by decide +kernel
theorem dX10_skips_77 : decode cX10_skips 77 = .ok (.iload_n 1, 1) := by decide +kernel
theorem dX10_skips_78 : decode cX10_skips 78 = .ok (.iload 6, 2) := by decide +kernel
theorem dX10_skips_80 : decode cX10_skips 80 = .ok (.iload 7, 2) := by decide +kernel
theorem dX10_skips_82 : decode cX10_skips 82 = .ok (.invokevirtual 165, 3) := by decide +kernel
theorem dX10_skips_85 : decode cX10_skips 85 = .ok (.ifCond .eq 15, 3) := by decide +kernel
theorem dX10_skips_88 : decode cX10_skips 88 = .ok (.iinc 4 1, 3) := by decide +kernel
theorem dX10_skips_91 : decode cX10_skips 91 = .ok (.iload 5, 2) := by decide +kernel
theorem dX10_skips_93 : decode cX10_skips 93 = .ok (.iconst 1, 1) := by decide +kernel
theorem dX10_skips_94 : decode cX10_skips 94 = .ok (.iload 6, 2) := by decide +kernel
theorem dX10_skips_96 : decode cX10_skips 96 = .ok (.ishl, 1) := by decide +kernel
theorem dX10_skips_97 : decode cX10_skips 97 = .ok (.ior, 1) := by decide +kernel
theorem dX10_skips_98 : decode cX10_skips 98 = .ok (.istore 5, 2) := by decide +kernel
theorem dX10_skips_100 : decode cX10_skips 100 = .ok (.iinc 7 1, 3) := by decide +kernel
theorem dX10_skips_103 : decode cX10_skips 103 = .ok (.goto (-46), 3) := by decide +kernel
theorem dX10_skips_106 : decode cX10_skips 106 = .ok (.iinc 6 1, 3) := by decide +kernel
theorem dX10_skips_109 : decode cX10_skips 109 = .ok (.goto (-62), 3) := by decide +kernel
theorem dX10_skips_112 : decode cX10_skips 112 = .ok (.iload_n 2, 1) := by decide +kernel
theorem dX10_skips_113 : decode cX10_skips 113 = .ok (.ifCond .ne 8, 3) := by decide +kernel
theorem dX10_skips_116 : decode cX10_skips 116 = .ok (.iload 4, 2) := by decide +kernel
theorem dX10_skips_118 : decode cX10_skips 118 = .ok (.goto 22, 3) := by decide +kernel
theorem dX10_skips_121 : decode cX10_skips 121 = .ok (.iload_n 2, 1) := by decide +kernel
theorem dX10_skips_122 : decode cX10_skips 122 = .ok (.iconst 1, 1) := by decide +kernel
theorem dX10_skips_123 : decode cX10_skips 123 = .ok (.if_icmp .ne 8, 3) := by decide +kernel
theorem dX10_skips_126 : decode cX10_skips 126 = .ok (.iload 5, 2) := by decide +kernel
theorem dX10_skips_128 : decode cX10_skips 128 = .ok (.goto 12, 3) := by decide +kernel
theorem dX10_skips_131 : decode cX10_skips 131 = .ok (.iload_n 3, 1) := by decide +kernel
theorem dX10_skips_132 : decode cX10_skips 132 = .ok (.ifCond .eq 7, 3) := by decide +kernel
theorem dX10_skips_135 : decode cX10_skips 135 = .ok (.iconst 1, 1) := by decide +kernel
theorem dX10_skips_136 : decode cX10_skips 136 = .ok (.goto 4, 3) := by decide +kernel
theorem dX10_skips_139 : decode cX10_skips 139 = .ok (.iconst 0, 1) := by decide +kernel
theorem dX10_skips_140 : decode cX10_skips 140 = .ok (.ireturn, 1) := by decide +kernel
set_option maxRecDepth 20000 in
theorem ggX10_ask_X10_in : GoodIn wsX10_ask wsX10_in := goodIn_r _ [6] (by decide +kernel) (by decide +kernel)
set_option maxRecDepth 20000 in
theorem gX10_ask_X10_in : GoodIn wsX10_ask (va_wsS RX10 43 yX10_in wsX10_in) := goodIn_app (goodIn_of _ (by decide +kernel)) ggX10_ask_X10_in
set_option maxRecDepth 20000 in
theorem ggX10_ask_X10_has : GoodIn wsX10_ask wsX10_has := goodIn_r _ [9] (by decide +kernel) (by decide +kernel)
set_option maxRecDepth 20000 in
theorem gX10_ask_X10_has : GoodIn wsX10_ask (va_wsS RX10 47 yX10_has wsX10_has) := goodIn_app (goodIn_of _ (by decide +kernel)) ggX10_ask_X10_has
set_option maxRecDepth 20000 in
theorem ggX10_ask_X10_isWorld : GoodIn wsX10_ask wsX10_isWorld := goodIn_r _ [13, 14, 15, 16, 17, 18, 5, 19, 20, 21, 22, 23, 24, 25, 2, 26, 27, 28, 29, 30, 3, 4, 6, 7, 8, 9, 31, 32, 33, 34, 35, 36, 37, 38, 39, 40, 41, 42, 43, 44, 45, 46, 47, 48, 49, 50, 51, 52, 53, 54, 55, 56, 57, 58, 59, 60, 61, 62, 63, 64] (by decide +kernel) (by decide +kernel)
set_option maxRecDepth 20000 in
theorem gX10_ask_X10_isWorld : GoodIn wsX10_ask (wsV RX10 165 RX10 yX10_isWorld wsX10_isWorld) := goodIn_app (goodIn_of _ (by decide +kernel)) ggX10_ask_X10_isWorld
set_option maxRecDepth 20000 in
theorem ggX10_ask_X10_doesBow : GoodIn wsX10_ask wsX10_doesBow := goodIn_r _ [19, 20, 21, 22, 23, 24, 5, 25, 2, 26, 27, 28, 29, 30, 3, 4, 6, 7, 8, 9, 31, 32, 33, 34, 35, 36, 37, 38, 39, 40, 41, 42, 43, 44, 45, 46, 47, 48, 49, 50, 51, 52, 53, 54, 55, 56, 57, 58, 59, 60, 61, 62, 63, 64] (by decide +kernel) (by decide +kernel)
set_option maxRecDepth 20000 in
theorem gX10_ask_X10_doesBow : GoodIn wsX10_ask (wsV RX10 161 RX10 yX10_doesBow wsX10_doesBow) := goodIn_app (goodIn_of _ (by decide +kernel)) ggX10_ask_X10_doesBow
theorem dX10_ask_0 : decode cX10_ask 0 = .ok (.iload_n 1, 1) := by decide +kernel
theorem dX10_ask_1 : decode cX10_ask 1 = .ok (.iconst 0, 1) := by decide +kernel
theorem dX10_ask_2 : decode cX10_ask 2 = .ok (.iconst 4, 1) := by decide +kernel
theorem dX10_ask_3 : decode cX10_ask 3 = .ok (.invokestatic 43, 3) := by decide +kernel
theorem dX10_ask_6 : decode cX10_ask 6 = .ok (.ifCond .eq 22, 3) := by decide +kernel
theorem dX10_ask_9 : decode cX10_ask 9 = .ok (.iload_n 2, 1) := by decide +kernel
theorem dX10_ask_10 : decode cX10_ask 10 = .ok (.iconst 0, 1) := by decide +kernel
theorem dX10_ask_11 : decode cX10_ask 11 = .ok (.bipush 99, 2) := by decide +kernel
theorem dX10_ask_13 : decode cX10_ask 13 = .ok (.invokestatic 43, 3) := by decide +kernel
theorem dX10_ask_16 : decode cX10_ask 16 = .ok (.ifCond .eq 12, 3) := by decide +kernel
theorem dX10_ask_19 : decode cX10_ask 19 = .ok (.iload_n 3, 1) := by decide +kernel
theorem dX10_ask_20 : decode cX10_ask 20 = .ok (.iconst 0, 1) := by decide +kernel
theorem dX10_ask_21 : decode cX10_ask 21 = .ok (.iconst 1, 1) := by decide +kernel
theorem dX10_ask_22 : decode cX10_ask 22 = .ok (.invokestatic 43, 3) := by decide +kernel
theorem dX10_ask_25 : decode cX10_ask 25 = .ok (.ifCond .ne 6, 3) := by decide +kernel
theorem dX10_ask_28 : decode cX10_ask 28 = .ok (.bipush (-2), 2) := by decide +kernel
theorem dX10_ask_30 : decode cX10_ask 30 = .ok (.ireturn, 1) := by decide +kernel
theorem dX10_ask_31 : decode cX10_ask 31 = .ok (.bipush (-6), 2) := by decide +kernel
theorem dX10_ask_33 : decode cX10_ask 33 = .ok (.istore 4, 2) := by decide +kernel
theorem dX10_ask_35 : decode cX10_ask 35 = .ok (.ldc 75, 2) := by decide +kernel
theorem dX10_ask_37 : decode cX10_ask 37 = .ok (.istore 5, 2) := by decide +kernel
theorem dX10_ask_39 : decode cX10_ask 39 = .ok (.iconst 0, 1) := by decide +kernel
theorem dX10_ask_40 : decode cX10_ask 40 = .ok (.istore 6, 2) := by decide +kernel
theorem dX10_ask_42 : decode cX10_ask 42 = .ok (.iload 6, 2) := by decide +kernel
theorem dX10_ask_44 : decode cX10_ask 44 = .ok (.bipush 8, 2) := by decide +kernel
theorem dX10_ask_46 : decode cX10_ask 46 = .ok (.if_icmp .ge 227, 3) := by decide +kernel
theorem dX10_ask_49 : decode cX10_ask 49 = .ok (.iconst 0, 1) := by decide +kernel
theorem dX10_ask_50 : decode cX10_ask 50 = .ok (.istore 7, 2) := by decide +kernel
theorem dX10_ask_52 : decode cX10_ask 52 = .ok (.iconst 0, 1) := by decide +kernel
theorem dX10_ask_53 : decode cX10_ask 53 = .ok (.istore 8, 2) := by decide +kernel
theorem dX10_ask_55 : decode cX10_ask 55 = .ok (.iconst (-1), 1) := by decide +kernel
theorem dX10_ask_56 : decode cX10_ask 56 = .ok (.istore 9, 2) := by decide +kernel
theorem dX10_ask_58 : decode cX10_ask 58 = .ok (.iload 9, 2) := by decide +kernel
theorem dX10_ask_60 : decode cX10_ask 60 = .ok (.bipush 8, 2) := by decide +kernel
theorem dX10_ask_62 : decode cX10_ask 62 = .ok (.if_icmp .ge 124, 3) := by decide +kernel
theorem dX10_ask_65 : decode cX10_ask 65 = .ok (.iload 9, 2) := by decide +kernel
theorem dX10_ask_67 : decode cX10_ask 67 = .ok (.ifCond .ge 7, 3) := by decide +kernel
theorem dX10_ask_70 : decode cX10_ask 70 = .ok (.iconst 0, 1) := by decide +kernel
theorem dX10_ask_71 : decode cX10_ask 71 = .ok (.goto 4, 3) := by decide +kernel
theorem dX10_ask_74 : decode cX10_ask 74 = .ok (.iconst 1, 1) := by decide +kernel
theorem dX10_ask_75 : decode cX10_ask 75 = .ok (.istore 10, 2) := by decide +kernel
