theorem dX0_init_0 : decode cX0_init 0 = .ok (.aload_n 0, 1) := by decide +kernel
theorem dX0_init_1 : decode cX0_init 1 = .ok (.invokespecial 5, 3) := by decide +kernel
theorem dX0_init_4 : decode cX0_init 4 = .ok (.aload_n 0, 1) := by decide +kernel
theorem dX0_init_5 : decode cX0_init 5 = .ok (.sipush 150, 3) := by decide +kernel
theorem dX0_init_8 : decode cX0_init 8 = .ok (.newarray .int, 2) := by decide +kernel
theorem dX0_init_10 : decode cX0_init 10 = .ok (.putfield 11, 3) := by decide +kernel
theorem dX0_init_13 : decode cX0_init 13 = .ok (.aload_n 0, 1) := by decide +kernel
theorem dX0_init_14 : decode cX0_init 14 = .ok (.sipush 150, 3) := by decide +kernel
theorem dX0_init_17 : decode cX0_init 17 = .ok (.newarray .int, 2) := by decide +kernel
theorem dX0_init_19 : decode cX0_init 19 = .ok (.putfield 15, 3) := by decide +kernel
theorem dX0_init_22 : decode cX0_init 22 = .ok (.aload_n 0, 1) := by decide +kernel
theorem dX0_init_23 : decode cX0_init 23 = .ok (.sipush 150, 3) := by decide +kernel
theorem dX0_init_26 : decode cX0_init 26 = .ok (.newarray .int, 2) := by decide +kernel
theorem dX0_init_28 : decode cX0_init 28 = .ok (.putfield 18, 3) := by decide +kernel
theorem dX0_init_31 : decode cX0_init 31 = .ok (.aload_n 0, 1) := by decide +kernel
theorem dX0_init_32 : decode cX0_init 32 = .ok (.bipush 10, 2) := by decide +kernel
theorem dX0_init_34 : decode cX0_init 34 = .ok (.newarray .int, 2) := by decide +kernel
theorem dX0_init_36 : decode cX0_init 36 = .ok (.putfield 23, 3) := by decide +kernel
theorem dX0_init_39 : decode cX0_init 39 = .ok (.aload_n 0, 1) := by decide +kernel
theorem dX0_init_40 : decode cX0_init 40 = .ok (.iconst 0, 1) := by decide +kernel
theorem dX0_init_41 : decode cX0_init 41 = .ok (.putfield 26, 3) := by decide +kernel
theorem dX0_init_44 : decode cX0_init 44 = .ok (.aload_n 0, 1) := by decide +kernel
theorem dX0_init_45 : decode cX0_init 45 = .ok (.aload_n 1, 1) := by decide +kernel
theorem dX0_init_46 : decode cX0_init 46 = .ok (.putfield 30, 3) := by decide +kernel
theorem dX0_init_49 : decode cX0_init 49 = .ok (.aload_n 0, 1) := by decide +kernel
theorem dX0_init_50 : decode cX0_init 50 = .ok (.aload_n 2, 1) := by decide +kernel
theorem dX0_init_51 : decode cX0_init 51 = .ok (.putfield 34, 3) := by decide +kernel
theorem dX0_init_54 : decode cX0_init 54 = .ok (.aload_n 0, 1) := by decide +kernel
theorem dX0_init_55 : decode cX0_init 55 = .ok (.aload_n 3, 1) := by decide +kernel
theorem dX0_init_56 : decode cX0_init 56 = .ok (.putfield 38, 3) := by decide +kernel
theorem dX0_init_59 : decode cX0_init 59 = .ok (.return_, 1) := by decide +kernel
set_option maxRecDepth 20000 in
theorem ggX0_isNumber_X5_within : GoodIn wsX0_isNumber wsX5_within := goodIn_r _ [3] (by decide +kernel) (by decide +kernel)
set_option maxRecDepth 20000 in
theorem gX0_isNumber_X5_within_n42 : GoodIn wsX0_isNumber (wsX5_within) := ggX0_isNumber_X5_within
theorem dX0_isNumber_0 : decode cX0_isNumber 0 = .ok (.iload_n 0, 1) := by decide +kernel
theorem dX0_isNumber_1 : decode cX0_isNumber 1 = .ok (.iconst 0, 1) := by decide +kernel
theorem dX0_isNumber_2 : decode cX0_isNumber 2 = .ok (.sipush 149, 3) := by decide +kernel
theorem dX0_isNumber_5 : decode cX0_isNumber 5 = .ok (.invokestatic 42, 3) := by decide +kernel
theorem dX0_isNumber_8 : decode cX0_isNumber 8 = .ok (.ireturn, 1) := by decide +kernel
theorem dX0_oddOf_0 : decode cX0_oddOf 0 = .ok (.iload_n 0, 1) := by decide +kernel
theorem dX0_oddOf_1 : decode cX0_oddOf 1 = .ok (.iconst 5, 1) := by decide +kernel
theorem dX0_oddOf_2 : decode cX0_oddOf 2 = .ok (.irem, 1) := by decide +kernel
theorem dX0_oddOf_3 : decode cX0_oddOf 3 = .ok (.ireturn, 1) := by decide +kernel
theorem dX0_leakOf_0 : decode cX0_leakOf 0 = .ok (.aload_n 0, 1) := by decide +kernel
theorem dX0_leakOf_1 : decode cX0_leakOf 1 = .ok (.getfield 30, 3) := by decide +kernel
theorem dX0_leakOf_4 : decode cX0_leakOf 4 = .ok (.getfield 46, 3) := by decide +kernel
theorem dX0_leakOf_7 : decode cX0_leakOf 7 = .ok (.iload_n 1, 1) := by decide +kernel
theorem dX0_leakOf_8 : decode cX0_leakOf 8 = .ok (.bipush 25, 2) := by decide +kernel
theorem dX0_leakOf_10 : decode cX0_leakOf 10 = .ok (.idiv, 1) := by decide +kernel
theorem dX0_leakOf_11 : decode cX0_leakOf 11 = .ok (.iadd, 1) := by decide +kernel
theorem dX0_leakOf_12 : decode cX0_leakOf 12 = .ok (.ireturn, 1) := by decide +kernel
set_option maxRecDepth 20000 in
theorem ggX0_loadOfCase_X2_setOfOn : GoodIn wsX0_loadOfCase wsX2_setOfOn := goodIn_r _ [7, 8, 9, 10, 11, 6, 12, 13, 57, 58, 59, 60, 61, 62, 63, 64, 65] (by decide +kernel) (by decide +kernel)
set_option maxRecDepth 20000 in
theorem gX0_loadOfCase_X2_setOfOn : GoodIn wsX0_loadOfCase (wsV RX0 49 RX2 yX2_setOfOn wsX2_setOfOn) := goodIn_app (goodIn_of _ (by decide +kernel)) ggX0_loadOfCase_X2_setOfOn
set_option maxRecDepth 20000 in
theorem ggX0_loadOfCase_X2_loadOf : GoodIn wsX0_loadOfCase wsX2_loadOf := goodIn_r _ [17, 8, 18, 19, 20, 6, 21, 9, 10, 11, 12, 13, 22, 23, 24, 25, 26, 27, 28, 29, 30, 31, 32, 33, 34, 35, 36, 37, 38, 57, 58, 59, 60, 61, 62, 63, 64, 65] (by decide +kernel) (by decide +kernel)
set_option maxRecDepth 20000 in
theorem gX0_loadOfCase_X2_loadOf : GoodIn wsX0_loadOfCase (wsV RX0 58 RX2 yX2_loadOf wsX2_loadOf) := goodIn_app (goodIn_of _ (by decide +kernel)) ggX0_loadOfCase_X2_loadOf
set_option maxRecDepth 20000 in
theorem ggX0_loadOfCase_X0_oddOf : GoodIn wsX0_loadOfCase wsX0_oddOf := goodIn_r _ [42] (by decide +kernel) (by decide +kernel)
set_option maxRecDepth 20000 in
theorem gX0_loadOfCase_X0_oddOf : GoodIn wsX0_loadOfCase (va_wsS RX0 62 yX0_oddOf wsX0_oddOf) := goodIn_app (goodIn_of _ (by decide +kernel)) ggX0_loadOfCase_X0_oddOf
theorem dX0_loadOfCase_0 : decode cX0_loadOfCase 0 = .ok (.iload_n 1, 1) := by decide +kernel
theorem dX0_loadOfCase_1 : decode cX0_loadOfCase 1 = .ok (.iconst 5, 1) := by decide +kernel
theorem dX0_loadOfCase_2 : decode cX0_loadOfCase 2 = .ok (.idiv, 1) := by decide +kernel
theorem dX0_loadOfCase_3 : decode cX0_loadOfCase 3 = .ok (.iconst 5, 1) := by decide +kernel
theorem dX0_loadOfCase_4 : decode cX0_loadOfCase 4 = .ok (.irem, 1) := by decide +kernel
theorem dX0_loadOfCase_5 : decode cX0_loadOfCase 5 = .ok (.iconst 1, 1) := by decide +kernel
theorem dX0_loadOfCase_6 : decode cX0_loadOfCase 6 = .ok (.iadd, 1) := by decide +kernel
theorem dX0_loadOfCase_7 : decode cX0_loadOfCase 7 = .ok (.istore_n 2, 1) := by decide +kernel
theorem dX0_loadOfCase_8 : decode cX0_loadOfCase 8 = .ok (.aload_n 0, 1) := by decide +kernel
theorem dX0_loadOfCase_9 : decode cX0_loadOfCase 9 = .ok (.getfield 34, 3) := by decide +kernel
theorem dX0_loadOfCase_12 : decode cX0_loadOfCase 12 = .ok (.aload_n 0, 1) := by decide +kernel
theorem dX0_loadOfCase_13 : decode cX0_loadOfCase 13 = .ok (.getfield 34, 3) := by decide +kernel
theorem dX0_loadOfCase_16 : decode cX0_loadOfCase 16 = .ok (.invokevirtual 49, 3) := by decide +kernel
theorem dX0_loadOfCase_19 : decode cX0_loadOfCase 19 = .ok (.iload_n 2, 1) := by decide +kernel
theorem dX0_loadOfCase_20 : decode cX0_loadOfCase 20 = .ok (.aload_n 0, 1) := by decide +kernel
theorem dX0_loadOfCase_21 : decode cX0_loadOfCase 21 = .ok (.getfield 30, 3) := by decide +kernel
theorem dX0_loadOfCase_24 : decode cX0_loadOfCase 24 = .ok (.getfield 55, 3) := by decide +kernel
theorem dX0_loadOfCase_27 : decode cX0_loadOfCase 27 = .ok (.invokevirtual 58, 3) := by decide +kernel
theorem dX0_loadOfCase_30 : decode cX0_loadOfCase 30 = .ok (.bipush 20, 2) := by decide +kernel
theorem dX0_loadOfCase_32 : decode cX0_loadOfCase 32 = .ok (.iload_n 1, 1) := by decide +kernel
theorem dX0_loadOfCase_33 : decode cX0_loadOfCase 33 = .ok (.invokestatic 62, 3) := by decide +kernel
theorem dX0_loadOfCase_36 : decode cX0_loadOfCase 36 = .ok (.imul, 1) := by decide +kernel
theorem dX0_loadOfCase_37 : decode cX0_loadOfCase 37 = .ok (.iadd, 1) := by decide +kernel
theorem dX0_loadOfCase_38 : decode cX0_loadOfCase 38 = .ok (.ireturn, 1) := by decide +kernel
set_option maxRecDepth 20000 in
theorem ggX0_levelAhead_X0_leakOf : GoodIn wsX0_levelAhead wsX0_leakOf := goodIn_r _ [6, 1, 84, 85, 86, 87, 88, 89, 90, 91, 92, 93, 94, 95, 96, 97] (by decide +kernel) (by decide +kernel)
set_option maxRecDepth 20000 in
theorem gX0_levelAhead_X0_leakOf : GoodIn wsX0_levelAhead (wsV RX0 66 RX0 yX0_leakOf wsX0_leakOf) := goodIn_app (goodIn_of _ (by decide +kernel)) ggX0_levelAhead_X0_leakOf
set_option maxRecDepth 20000 in
theorem ggX0_levelAhead_X0_loadOfCase : GoodIn wsX0_levelAhead wsX0_loadOfCase := goodIn_r _ [10, 11, 1, 12, 13, 14, 15, 16, 17, 18, 19, 20, 21, 22, 23, 24, 25, 26, 27, 28, 29, 30, 31, 32, 33, 34, 35, 36, 37, 38, 39, 40, 41, 42, 43, 44, 45, 46, 47, 48, 49, 5, 50, 84, 85, 86, 87, 88, 89, 90, 91, 92, 93, 94, 95, 96, 97, 98, 99, 100, 101, 102, 103, 104, 105, 106] (by decide +kernel) (by decide +kernel)
set_option maxRecDepth 20000 in
theorem gX0_levelAhead_X0_loadOfCase : GoodIn wsX0_levelAhead (wsV RX0 69 RX0 yX0_loadOfCase wsX0_loadOfCase) := goodIn_app (goodIn_of _ (by decide +kernel)) ggX0_levelAhead_X0_loadOfCase
set_option maxRecDepth 20000 in
theorem ggX0_levelAhead_X1_chargeAhead : GoodIn wsX0_levelAhead wsX1_chargeAhead := goodIn_r _ [55, 56, 57, 58, 54, 59, 60, 61, 62, 63, 64, 65, 66, 67, 68, 69, 70, 71, 72, 73, 74, 75, 76, 77, 78, 92, 93, 94, 95, 96, 97] (by decide +kernel) (by decide +kernel)
set_option maxRecDepth 20000 in
theorem gX0_levelAhead_X1_chargeAhead : GoodIn wsX0_levelAhead (wsV RX0 72 RX1 yX1_chargeAhead wsX1_chargeAhead) := goodIn_app (goodIn_of _ (by decide +kernel)) ggX0_levelAhead_X1_chargeAhead
set_option maxRecDepth 20000 in
theorem ggX0_levelAhead_X1_levelOf : GoodIn wsX0_levelAhead wsX1_levelOf := goodIn_r _ [82, 83, 46, 42, 47, 56, 57, 58, 54, 59, 60, 92, 93, 94, 95, 96, 97] (by decide +kernel) (by decide +kernel)
set_option maxRecDepth 20000 in
theorem gX0_levelAhead_X1_levelOf : GoodIn wsX0_levelAhead (wsV RX0 75 RX1 yX1_levelOf wsX1_levelOf) := goodIn_app (goodIn_of _ (by decide +kernel)) ggX0_levelAhead_X1_levelOf
theorem dX0_levelAhead_0 : decode cX0_levelAhead 0 = .ok (.aload_n 0, 1) := by decide +kernel
theorem dX0_levelAhead_1 : decode cX0_levelAhead 1 = .ok (.getfield 30, 3) := by decide +kernel
theorem dX0_levelAhead_4 : decode cX0_levelAhead 4 = .ok (.aload_n 0, 1) := by decide +kernel
theorem dX0_levelAhead_5 : decode cX0_levelAhead 5 = .ok (.getfield 30, 3) := by decide +kernel
theorem dX0_levelAhead_8 : decode cX0_levelAhead 8 = .ok (.iload_n 2, 1) := by decide +kernel
theorem dX0_levelAhead_9 : decode cX0_levelAhead 9 = .ok (.aload_n 0, 1) := by decide +kernel
theorem dX0_levelAhead_10 : decode cX0_levelAhead 10 = .ok (.iload_n 1, 1) := by decide +kernel
theorem dX0_levelAhead_11 : decode cX0_levelAhead 11 = .ok (.invokevirtual 66, 3) := by decide +kernel
theorem dX0_levelAhead_14 : decode cX0_levelAhead 14 = .ok (.aload_n 0, 1) := by decide +kernel
theorem dX0_levelAhead_15 : decode cX0_levelAhead 15 = .ok (.iload_n 1, 1) := by decide +kernel
theorem dX0_levelAhead_16 : decode cX0_levelAhead 16 = .ok (.invokevirtual 69, 3) := by decide +kernel
theorem dX0_levelAhead_19 : decode cX0_levelAhead 19 = .ok (.invokevirtual 72, 3) := by decide +kernel
theorem dX0_levelAhead_22 : decode cX0_levelAhead 22 = .ok (.invokevirtual 75, 3) := by decide +kernel
theorem dX0_levelAhead_25 : decode cX0_levelAhead 25 = .ok (.ireturn, 1) := by decide +kernel
set_option maxRecDepth 20000 in
theorem ggX0_fitsSigns_X0_leakOf : GoodIn wsX0_fitsSigns wsX0_leakOf := goodIn_r _ [7, 1, 94, 95, 96, 97, 98, 99, 100, 101, 106, 107, 108, 109, 110, 111] (by decide +kernel) (by decide +kernel)
set_option maxRecDepth 20000 in
theorem gX0_fitsSigns_X0_leakOf : GoodIn wsX0_fitsSigns (wsV RX0 66 RX0 yX0_leakOf wsX0_leakOf) := goodIn_app (goodIn_of _ (by decide +kernel)) ggX0_fitsSigns_X0_leakOf
set_option maxRecDepth 20000 in
theorem ggX0_fitsSigns_X0_loadOfCase : GoodIn wsX0_fitsSigns wsX0_loadOfCase := goodIn_r _ [11, 12, 1, 13, 14, 15, 16, 17, 18, 19, 20, 21, 22, 23, 24, 25, 26, 27, 28, 29, 30, 31, 32, 33, 34, 35, 36, 37, 38, 39, 40, 41, 42, 43, 44, 45, 46, 47, 48, 49, 50, 6, 51, 94, 95, 96, 97, 98, 99, 100, 101, 106, 107, 108, 109, 110, 111, 112, 113, 114, 115, 116, 117, 118, 119, 120] (by decide +kernel) (by decide +kernel)
set_option maxRecDepth 20000 in
theorem gX0_fitsSigns_X0_loadOfCase : GoodIn wsX0_fitsSigns (wsV RX0 69 RX0 yX0_loadOfCase wsX0_loadOfCase) := goodIn_app (goodIn_of _ (by decide +kernel)) ggX0_fitsSigns_X0_loadOfCase
set_option maxRecDepth 20000 in
theorem ggX0_fitsSigns_X1_chargeAtFirst : GoodIn wsX0_fitsSigns wsX1_chargeAtFirst := goodIn_r _ [56, 57, 106, 107, 108, 109, 110, 111] (by decide +kernel) (by decide +kernel)
set_option maxRecDepth 20000 in
theorem gX0_fitsSigns_X1_chargeAtFirst : GoodIn wsX0_fitsSigns (wsV RX0 78 RX1 yX1_chargeAtFirst wsX1_chargeAtFirst) := goodIn_app (goodIn_of _ (by decide +kernel)) ggX0_fitsSigns_X1_chargeAtFirst
set_option maxRecDepth 20000 in
theorem ggX0_fitsSigns_X4_dayInOrder : GoodIn wsX0_fitsSigns wsX4_dayInOrder := goodIn_r _ [62, 63, 64, 65, 66, 67, 102, 103, 104, 105] (by decide +kernel) (by decide +kernel)
set_option maxRecDepth 20000 in
theorem gX0_fitsSigns_X4_dayInOrder : GoodIn wsX0_fitsSigns (wsV RX0 86 RX4 yX4_dayInOrder wsX4_dayInOrder) := goodIn_app (goodIn_of _ (by decide +kernel)) ggX0_fitsSigns_X4_dayInOrder
set_option maxRecDepth 20000 in
theorem ggX0_fitsSigns_X1_chargeFrom : GoodIn wsX0_fitsSigns wsX1_chargeFrom := goodIn_r _ [71, 72, 73, 74, 55, 75, 76, 77, 78, 65, 66, 67, 79, 80, 81, 82, 106, 107, 108, 109, 110, 111] (by decide +kernel) (by decide +kernel)
set_option maxRecDepth 20000 in
theorem gX0_fitsSigns_X1_chargeFrom : GoodIn wsX0_fitsSigns (wsV RX0 89 RX1 yX1_chargeFrom wsX1_chargeFrom) := goodIn_app (goodIn_of _ (by decide +kernel)) ggX0_fitsSigns_X1_chargeFrom
set_option maxRecDepth 20000 in
theorem ggX0_fitsSigns_X1_levelOf : GoodIn wsX0_fitsSigns wsX1_levelOf := goodIn_r _ [86, 87, 47, 43, 48, 88, 53, 54, 55, 56, 57, 106, 107, 108, 109, 110, 111] (by decide +kernel) (by decide +kernel)
set_option maxRecDepth 20000 in
theorem gX0_fitsSigns_X1_levelOf : GoodIn wsX0_fitsSigns (wsV RX0 75 RX1 yX1_levelOf wsX1_levelOf) := goodIn_app (goodIn_of _ (by decide +kernel)) ggX0_fitsSigns_X1_levelOf
set_option maxRecDepth 20000 in
theorem ggX0_fitsSigns_X4_levelInOrder : GoodIn wsX0_fitsSigns wsX4_levelInOrder := goodIn_r _ [92, 93, 64, 65, 66, 67, 102, 103, 104, 105] (by decide +kernel) (by decide +kernel)
set_option maxRecDepth 20000 in
theorem gX0_fitsSigns_X4_levelInOrder : GoodIn wsX0_fitsSigns (wsV RX0 93 RX4 yX4_levelInOrder wsX4_levelInOrder) := goodIn_app (goodIn_of _ (by decide +kernel)) ggX0_fitsSigns_X4_levelInOrder
theorem dX0_fitsSigns_0 : decode cX0_fitsSigns 0 = .ok (.aload_n 0, 1) := by decide +kernel
theorem dX0_fitsSigns_1 : decode cX0_fitsSigns 1 = .ok (.iload_n 1, 1) := by decide +kernel
theorem dX0_fitsSigns_2 : decode cX0_fitsSigns 2 = .ok (.invokevirtual 66, 3) := by decide +kernel
theorem dX0_fitsSigns_5 : decode cX0_fitsSigns 5 = .ok (.istore_n 2, 1) := by decide +kernel
theorem dX0_fitsSigns_6 : decode cX0_fitsSigns 6 = .ok (.aload_n 0, 1) := by decide +kernel
theorem dX0_fitsSigns_7 : decode cX0_fitsSigns 7 = .ok (.iload_n 1, 1) := by decide +kernel
theorem dX0_fitsSigns_8 : decode cX0_fitsSigns 8 = .ok (.invokevirtual 69, 3) := by decide +kernel
theorem dX0_fitsSigns_11 : decode cX0_fitsSigns 11 = .ok (.istore_n 3, 1) := by decide +kernel
theorem dX0_fitsSigns_12 : decode cX0_fitsSigns 12 = .ok (.aload_n 0, 1) := by decide +kernel
theorem dX0_fitsSigns_13 : decode cX0_fitsSigns 13 = .ok (.getfield 30, 3) := by decide +kernel
theorem dX0_fitsSigns_16 : decode cX0_fitsSigns 16 = .ok (.invokevirtual 78, 3) := by decide +kernel
theorem dX0_fitsSigns_19 : decode cX0_fitsSigns 19 = .ok (.istore 4, 2) := by decide +kernel
theorem dX0_fitsSigns_21 : decode cX0_fitsSigns 21 = .ok (.iconst 0, 1) := by decide +kernel
theorem dX0_fitsSigns_22 : decode cX0_fitsSigns 22 = .ok (.istore 5, 2) := by decide +kernel
theorem dX0_fitsSigns_24 : decode cX0_fitsSigns 24 = .ok (.iconst 0, 1) := by decide +kernel
theorem dX0_fitsSigns_25 : decode cX0_fitsSigns 25 = .ok (.istore 6, 2) := by decide +kernel
theorem dX0_fitsSigns_27 : decode cX0_fitsSigns 27 = .ok (.iload 6, 2) := by decide +kernel
theorem dX0_fitsSigns_29 : decode cX0_fitsSigns 29 = .ok (.aload_n 0, 1) := by decide +kernel
theorem dX0_fitsSigns_30 : decode cX0_fitsSigns 30 = .ok (.getfield 38, 3) := by decide +kernel
theorem dX0_fitsSigns_33 : decode cX0_fitsSigns 33 = .ok (.getfield 81, 3) := by decide +kernel
theorem dX0_fitsSigns_36 : decode cX0_fitsSigns 36 = .ok (.if_icmp .ge 64, 3) := by decide +kernel
theorem dX0_fitsSigns_39 : decode cX0_fitsSigns 39 = .ok (.aload_n 0, 1) := by decide +kernel
theorem dX0_fitsSigns_40 : decode cX0_fitsSigns 40 = .ok (.getfield 38, 3) := by decide +kernel
theorem dX0_fitsSigns_43 : decode cX0_fitsSigns 43 = .ok (.iload 6, 2) := by decide +kernel
theorem dX0_fitsSigns_45 : decode cX0_fitsSigns 45 = .ok (.invokevirtual 86, 3) := by decide +kernel
theorem dX0_fitsSigns_48 : decode cX0_fitsSigns 48 = .ok (.istore 7, 2) := by decide +kernel
theorem dX0_fitsSigns_50 : decode cX0_fitsSigns 50 = .ok (.aload_n 0, 1) := by decide +kernel
theorem dX0_fitsSigns_51 : decode cX0_fitsSigns 51 = .ok (.getfield 30, 3) := by decide +kernel
theorem dX0_fitsSigns_54 : decode cX0_fitsSigns 54 = .ok (.iload 4, 2) := by decide +kernel
theorem dX0_fitsSigns_56 : decode cX0_fitsSigns 56 = .ok (.iload 5, 2) := by decide +kernel
theorem dX0_fitsSigns_58 : decode cX0_fitsSigns 58 = .ok (.iload 7, 2) := by decide +kernel
theorem dX0_fitsSigns_60 : decode cX0_fitsSigns 60 = .ok (.iload_n 2, 1) := by decide +kernel
theorem dX0_fitsSigns_61 : decode cX0_fitsSigns 61 = .ok (.iload_n 3, 1) := by decide +kernel
theorem dX0_fitsSigns_62 : decode cX0_fitsSigns 62 = .ok (.invokevirtual 89, 3) := by decide +kernel
theorem dX0_fitsSigns_65 : decode cX0_fitsSigns 65 = .ok (.istore 4, 2) := by decide +kernel
theorem dX0_fitsSigns_67 : decode cX0_fitsSigns 67 = .ok (.iload 7, 2) := by decide +kernel
theorem dX0_fitsSigns_69 : decode cX0_fitsSigns 69 = .ok (.istore 5, 2) := by decide +kernel
theorem dX0_fitsSigns_71 : decode cX0_fitsSigns 71 = .ok (.aload_n 0, 1) := by decide +kernel
theorem dX0_fitsSigns_72 : decode cX0_fitsSigns 72 = .ok (.getfield 30, 3) := by decide +kernel
theorem dX0_fitsSigns_75 : decode cX0_fitsSigns 75 = .ok (.iload 4, 2) := by decide +kernel
theorem dX0_fitsSigns_77 : decode cX0_fitsSigns 77 = .ok (.invokevirtual 75, 3) := by decide +kernel
theorem dX0_fitsSigns_80 : decode cX0_fitsSigns 80 = .ok (.aload_n 0, 1) := by decide +kernel
theorem dX0_fitsSigns_81 : decode cX0_fitsSigns 81 = .ok (.getfield 38, 3) := by decide +kernel
theorem dX0_fitsSigns_84 : decode cX0_fitsSigns 84 = .ok (.iload 6, 2) := by decide +kernel
theorem dX0_fitsSigns_86 : decode cX0_fitsSigns 86 = .ok (.invokevirtual 93, 3) := by decide +kernel
theorem dX0_fitsSigns_89 : decode cX0_fitsSigns 89 = .ok (.if_icmp .eq 5, 3) := by decide +kernel
theorem dX0_fitsSigns_92 : decode cX0_fitsSigns 92 = .ok (.iconst 0, 1) := by decide +kernel
theorem dX0_fitsSigns_93 : decode cX0_fitsSigns 93 = .ok (.ireturn, 1) := by decide +kernel
theorem dX0_fitsSigns_94 : decode cX0_fitsSigns 94 = .ok (.iinc 6 1, 3) := by decide +kernel
theorem dX0_fitsSigns_97 : decode cX0_fitsSigns 97 = .ok (.goto (-70), 3) := by decide +kernel
theorem dX0_fitsSigns_100 : decode cX0_fitsSigns 100 = .ok (.iconst 1, 1) := by decide +kernel
theorem dX0_fitsSigns_101 : decode cX0_fitsSigns 101 = .ok (.ireturn, 1) := by decide +kernel
set_option maxRecDepth 20000 in
theorem ggX0_gatherAgreeing_X0_fitsSigns : GoodIn wsX0_gatherAgreeing wsX0_fitsSigns := goodIn_r _ [7, 8, 9, 10, 11, 12, 6, 13, 14, 15, 16, 17, 18, 19, 20, 21, 22, 23, 24, 25, 26, 27, 28, 29, 30, 31, 32, 33, 34, 35, 36, 37, 38, 39, 40, 41, 42, 43, 44, 45, 46, 47, 48, 49, 50, 51, 52, 53, 54, 55, 56, 57, 58, 59, 60, 61, 62, 63, 64, 65, 66, 67, 68, 69, 70, 71, 72, 73, 74, 75, 76, 77, 78, 79, 80, 81, 82, 83, 84, 85, 86, 87, 88, 89, 90, 91, 92, 93, 94, 95, 96, 97, 98, 99, 102, 103, 104, 105, 106, 107, 108, 109, 110, 111, 112, 113, 114, 115, 116, 117, 118, 119, 120, 121, 122, 123, 124, 125, 126, 127, 128] (by decide +kernel) (by decide +kernel)
set_option maxRecDepth 20000 in
theorem gX0_gatherAgreeing_X0_fitsSigns : GoodIn wsX0_gatherAgreeing (wsV RX0 96 RX0 yX0_fitsSigns wsX0_fitsSigns) := goodIn_app (goodIn_of _ (by decide +kernel)) ggX0_gatherAgreeing_X0_fitsSigns
set_option maxRecDepth 20000 in
theorem ggX0_gatherAgreeing_X5_put : GoodIn wsX0_gatherAgreeing wsX5_put := goodIn_r _ [101] (by decide +kernel) (by decide +kernel)
set_option maxRecDepth 20000 in
theorem gX0_gatherAgreeing_X5_put_n100 : GoodIn wsX0_gatherAgreeing (wsX5_put) := ggX0_gatherAgreeing_X5_put
theorem dX0_gatherAgreeing_0 : decode cX0_gatherAgreeing 0 = .ok (.aload_n 0, 1) := by decide +kernel
theorem dX0_gatherAgreeing_1 : decode cX0_gatherAgreeing 1 = .ok (.iconst 0, 1) := by decide +kernel
theorem dX0_gatherAgreeing_2 : decode cX0_gatherAgreeing 2 = .ok (.putfield 26, 3) := by decide +kernel
theorem dX0_gatherAgreeing_5 : decode cX0_gatherAgreeing 5 = .ok (.iconst 0, 1) := by decide +kernel
theorem dX0_gatherAgreeing_6 : decode cX0_gatherAgreeing 6 = .ok (.istore_n 1, 1) := by decide +kernel
theorem dX0_gatherAgreeing_7 : decode cX0_gatherAgreeing 7 = .ok (.iload_n 1, 1) := by decide +kernel
theorem dX0_gatherAgreeing_8 : decode cX0_gatherAgreeing 8 = .ok (.sipush 150, 3) := by decide +kernel
theorem dX0_gatherAgreeing_11 : decode cX0_gatherAgreeing 11 = .ok (.if_icmp .ge 39, 3) := by decide +kernel
theorem dX0_gatherAgreeing_14 : decode cX0_gatherAgreeing 14 = .ok (.aload_n 0, 1) := by decide +kernel
theorem dX0_gatherAgreeing_15 : decode cX0_gatherAgreeing 15 = .ok (.iload_n 1, 1) := by decide +kernel
theorem dX0_gatherAgreeing_16 : decode cX0_gatherAgreeing 16 = .ok (.invokevirtual 96, 3) := by decide +kernel
theorem dX0_gatherAgreeing_19 : decode cX0_gatherAgreeing 19 = .ok (.ifCond .eq 25, 3) := by decide +kernel
theorem dX0_gatherAgreeing_22 : decode cX0_gatherAgreeing 22 = .ok (.aload_n 0, 1) := by decide +kernel
theorem dX0_gatherAgreeing_23 : decode cX0_gatherAgreeing 23 = .ok (.getfield 11, 3) := by decide +kernel
theorem dX0_gatherAgreeing_26 : decode cX0_gatherAgreeing 26 = .ok (.aload_n 0, 1) := by decide +kernel
theorem dX0_gatherAgreeing_27 : decode cX0_gatherAgreeing 27 = .ok (.getfield 26, 3) := by decide +kernel
theorem dX0_gatherAgreeing_30 : decode cX0_gatherAgreeing 30 = .ok (.iload_n 1, 1) := by decide +kernel
theorem dX0_gatherAgreeing_31 : decode cX0_gatherAgreeing 31 = .ok (.invokestatic 100, 3) := by decide +kernel
theorem dX0_gatherAgreeing_34 : decode cX0_gatherAgreeing 34 = .ok (.aload_n 0, 1) := by decide +kernel
theorem dX0_gatherAgreeing_35 : decode cX0_gatherAgreeing 35 = .ok (.dup, 1) := by decide +kernel
theorem dX0_gatherAgreeing_36 : decode cX0_gatherAgreeing 36 = .ok (.getfield 26, 3) := by decide +kernel
theorem dX0_gatherAgreeing_39 : decode cX0_gatherAgreeing 39 = .ok (.iconst 1, 1) := by decide +kernel
theorem dX0_gatherAgreeing_40 : decode cX0_gatherAgreeing 40 = .ok (.iadd, 1) := by decide +kernel
theorem dX0_gatherAgreeing_41 : decode cX0_gatherAgreeing 41 = .ok (.putfield 26, 3) := by decide +kernel
theorem dX0_gatherAgreeing_44 : decode cX0_gatherAgreeing 44 = .ok (.iinc 1 1, 3) := by decide +kernel
theorem dX0_gatherAgreeing_47 : decode cX0_gatherAgreeing 47 = .ok (.goto (-40), 3) := by decide +kernel
theorem dX0_gatherAgreeing_50 : decode cX0_gatherAgreeing 50 = .ok (.return_, 1) := by decide +kernel
set_option maxRecDepth 20000 in
theorem ggX0_leastAgreeing_X5_at : GoodIn wsX0_leastAgreeing wsX5_at := goodIn_r _ [5] (by decide +kernel) (by decide +kernel)
set_option maxRecDepth 20000 in
theorem gX0_leastAgreeing_X5_at_n104 : GoodIn wsX0_leastAgreeing (wsX5_at) := ggX0_leastAgreeing_X5_at
theorem dX0_leastAgreeing_0 : decode cX0_leastAgreeing 0 = .ok (.aload_n 0, 1) := by decide +kernel
theorem dX0_leastAgreeing_1 : decode cX0_leastAgreeing 1 = .ok (.getfield 26, 3) := by decide +kernel
theorem dX0_leastAgreeing_4 : decode cX0_leastAgreeing 4 = .ok (.ifCond .le 14, 3) := by decide +kernel
theorem dX0_leastAgreeing_7 : decode cX0_leastAgreeing 7 = .ok (.aload_n 0, 1) := by decide +kernel
theorem dX0_leastAgreeing_8 : decode cX0_leastAgreeing 8 = .ok (.getfield 11, 3) := by decide +kernel
theorem dX0_leastAgreeing_11 : decode cX0_leastAgreeing 11 = .ok (.iconst 0, 1) := by decide +kernel
theorem dX0_leastAgreeing_12 : decode cX0_leastAgreeing 12 = .ok (.invokestatic 104, 3) := by decide +kernel
theorem dX0_leastAgreeing_15 : decode cX0_leastAgreeing 15 = .ok (.goto 5, 3) := by decide +kernel
theorem dX0_leastAgreeing_18 : decode cX0_leastAgreeing 18 = .ok (.bipush (-9), 2) := by decide +kernel
theorem dX0_leastAgreeing_20 : decode cX0_leastAgreeing 20 = .ok (.ireturn, 1) := by decide +kernel
set_option maxRecDepth 20000 in
theorem ggX0_isOdd_X5_at : GoodIn wsX0_isOdd wsX5_at := goodIn_r _ [5] (by decide +kernel) (by decide +kernel)
set_option maxRecDepth 20000 in
theorem gX0_isOdd_X5_at_n104 : GoodIn wsX0_isOdd (wsX5_at) := ggX0_isOdd_X5_at
set_option maxRecDepth 20000 in
theorem ggX0_isOdd_X0_oddOf : GoodIn wsX0_isOdd wsX0_oddOf := goodIn_r _ [9] (by decide +kernel) (by decide +kernel)
set_option maxRecDepth 20000 in
theorem gX0_isOdd_X0_oddOf : GoodIn wsX0_isOdd (va_wsS RX0 62 yX0_oddOf wsX0_oddOf) := goodIn_app (goodIn_of _ (by decide +kernel)) ggX0_isOdd_X0_oddOf
theorem dX0_isOdd_0 : decode cX0_isOdd 0 = .ok (.iconst 0, 1) := by decide +kernel
theorem dX0_isOdd_1 : decode cX0_isOdd 1 = .ok (.istore_n 1, 1) := by decide +kernel
theorem dX0_isOdd_2 : decode cX0_isOdd 2 = .ok (.iload_n 1, 1) := by decide +kernel
theorem dX0_isOdd_3 : decode cX0_isOdd 3 = .ok (.aload_n 0, 1) := by decide +kernel
theorem dX0_isOdd_4 : decode cX0_isOdd 4 = .ok (.getfield 26, 3) := by decide +kernel
theorem dX0_isOdd_7 : decode cX0_isOdd 7 = .ok (.if_icmp .ge 25, 3) := by decide +kernel
theorem dX0_isOdd_10 : decode cX0_isOdd 10 = .ok (.aload_n 0, 1) := by decide +kernel
theorem dX0_isOdd_11 : decode cX0_isOdd 11 = .ok (.getfield 11, 3) := by decide +kernel
theorem dX0_isOdd_14 : decode cX0_isOdd 14 = .ok (.iload_n 1, 1) := by decide +kernel
theorem dX0_isOdd_15 : decode cX0_isOdd 15 = .ok (.invokestatic 104, 3) := by decide +kernel
theorem dX0_isOdd_18 : decode cX0_isOdd 18 = .ok (.invokestatic 62, 3) := by decide +kernel
theorem dX0_isOdd_21 : decode cX0_isOdd 21 = .ok (.ifCond .ne 5, 3) := by decide +kernel
theorem dX0_isOdd_24 : decode cX0_isOdd 24 = .ok (.iconst 0, 1) := by decide +kernel
theorem dX0_isOdd_25 : decode cX0_isOdd 25 = .ok (.ireturn, 1) := by decide +kernel
theorem dX0_isOdd_26 : decode cX0_isOdd 26 = .ok (.iinc 1 1, 3) := by decide +kernel
theorem dX0_isOdd_29 : decode cX0_isOdd 29 = .ok (.goto (-27), 3) := by decide +kernel
theorem dX0_isOdd_32 : decode cX0_isOdd 32 = .ok (.aload_n 0, 1) := by decide +kernel
theorem dX0_isOdd_33 : decode cX0_isOdd 33 = .ok (.getfield 26, 3) := by decide +kernel
theorem dX0_isOdd_36 : decode cX0_isOdd 36 = .ok (.ifCond .le 7, 3) := by decide +kernel
theorem dX0_isOdd_39 : decode cX0_isOdd 39 = .ok (.iconst 1, 1) := by decide +kernel
theorem dX0_isOdd_40 : decode cX0_isOdd 40 = .ok (.goto 4, 3) := by decide +kernel
theorem dX0_isOdd_43 : decode cX0_isOdd 43 = .ok (.iconst 0, 1) := by decide +kernel
theorem dX0_isOdd_44 : decode cX0_isOdd 44 = .ok (.ireturn, 1) := by decide +kernel
set_option maxRecDepth 20000 in
theorem ggX0_dayThatTellsMost_X0_startAgreeing : GoodIn wsX0_dayThatTellsMost wsX0_startAgreeing := goodIn_r _ [7, 1, 8, 9, 10, 11, 12, 13, 14, 15, 16, 17, 6, 18, 19, 20, 21, 22, 23, 24, 25, 26, 27, 28, 29, 30, 31, 32, 33, 34, 35, 36, 37, 38, 39, 40, 41, 42, 43, 44, 45, 46, 47, 48, 49, 50, 51, 52, 53, 54, 55, 56, 57, 58, 59, 60, 61, 62, 63, 64, 65, 66, 97, 98, 99, 100, 101, 102, 103, 104, 105, 106, 107, 108, 109, 110, 111, 112, 113, 114, 115, 116, 117, 118, 119] (by decide +kernel) (by decide +kernel)
set_option maxRecDepth 20000 in
theorem gX0_dayThatTellsMost_X0_startAgreeing : GoodIn wsX0_dayThatTellsMost (wsV RX0 108 RX0 yX0_startAgreeing wsX0_startAgreeing) := goodIn_app (goodIn_of _ (by decide +kernel)) ggX0_dayThatTellsMost_X0_startAgreeing
set_option maxRecDepth 20000 in
theorem ggX0_dayThatTellsMost_X0_greatestAtOneLevel : GoodIn wsX0_dayThatTellsMost wsX0_greatestAtOneLevel := goodIn_r _ [70, 2, 1, 11, 10, 71, 49, 50, 51, 12, 13, 14, 72, 73, 74, 64, 75, 76, 54, 55, 77, 62, 63, 65, 66, 59, 60, 97, 98, 99, 100, 101, 102, 103, 104, 105, 106, 107, 108, 109, 110] (by decide +kernel) (by decide +kernel)
set_option maxRecDepth 20000 in
theorem gX0_dayThatTellsMost_X0_greatestAtOneLevel : GoodIn wsX0_dayThatTellsMost (wsV RX0 111 RX0 yX0_greatestAtOneLevel wsX0_greatestAtOneLevel) := goodIn_app (goodIn_of _ (by decide +kernel)) ggX0_dayThatTellsMost_X0_greatestAtOneLevel
set_option maxRecDepth 20000 in
theorem ggX0_dayThatTellsMost_X5_at : GoodIn wsX0_dayThatTellsMost wsX5_at := goodIn_r _ [14] (by decide +kernel) (by decide +kernel)
set_option maxRecDepth 20000 in
theorem gX0_dayThatTellsMost_X5_at_n104 : GoodIn wsX0_dayThatTellsMost (wsX5_at) := ggX0_dayThatTellsMost_X5_at
set_option maxRecDepth 20000 in
theorem ggX0_dayThatTellsMost_X0_passDay : GoodIn wsX0_dayThatTellsMost wsX0_passDay := goodIn_r _ [81, 11, 1, 9, 10, 8, 82, 83, 84, 64, 85, 86, 87, 88, 12, 13, 14, 89, 90, 91, 6, 92, 93, 94, 95, 96, 59, 60, 97, 98, 99, 100, 101, 102, 103, 104, 105, 106, 107, 108, 109, 110] (by decide +kernel) (by decide +kernel)
set_option maxRecDepth 20000 in
theorem gX0_dayThatTellsMost_X0_passDay : GoodIn wsX0_dayThatTellsMost (wsV RX0 114 RX0 yX0_passDay wsX0_passDay) := goodIn_app (goodIn_of _ (by decide +kernel)) ggX0_dayThatTellsMost_X0_passDay
theorem dX0_dayThatTellsMost_0 : decode cX0_dayThatTellsMost 0 = .ok (.aload_n 0, 1) := by decide +kernel
theorem dX0_dayThatTellsMost_1 : decode cX0_dayThatTellsMost 1 = .ok (.getfield 26, 3) := by decide +kernel
theorem dX0_dayThatTellsMost_4 : decode cX0_dayThatTellsMost 4 = .ok (.iconst 2, 1) := by decide +kernel
theorem dX0_dayThatTellsMost_5 : decode cX0_dayThatTellsMost 5 = .ok (.if_icmp .ge 6, 3) := by decide +kernel
theorem dX0_dayThatTellsMost_8 : decode cX0_dayThatTellsMost 8 = .ok (.bipush (-9), 2) := by decide +kernel
theorem dX0_dayThatTellsMost_10 : decode cX0_dayThatTellsMost 10 = .ok (.ireturn, 1) := by decide +kernel
theorem dX0_dayThatTellsMost_11 : decode cX0_dayThatTellsMost 11 = .ok (.aload_n 0, 1) := by decide +kernel
theorem dX0_dayThatTellsMost_12 : decode cX0_dayThatTellsMost 12 = .ok (.invokevirtual 108, 3) := by decide +kernel
theorem dX0_dayThatTellsMost_15 : decode cX0_dayThatTellsMost 15 = .ok (.iconst 0, 1) := by decide +kernel
theorem dX0_dayThatTellsMost_16 : decode cX0_dayThatTellsMost 16 = .ok (.istore_n 1, 1) := by decide +kernel
theorem dX0_dayThatTellsMost_17 : decode cX0_dayThatTellsMost 17 = .ok (.sipush 151, 3) := by decide +kernel
theorem dX0_dayThatTellsMost_20 : decode cX0_dayThatTellsMost 20 = .ok (.istore_n 2, 1) := by decide +kernel
theorem dX0_dayThatTellsMost_21 : decode cX0_dayThatTellsMost 21 = .ok (.iconst 0, 1) := by decide +kernel
theorem dX0_dayThatTellsMost_22 : decode cX0_dayThatTellsMost 22 = .ok (.istore_n 3, 1) := by decide +kernel
theorem dX0_dayThatTellsMost_23 : decode cX0_dayThatTellsMost 23 = .ok (.iload_n 3, 1) := by decide +kernel
theorem dX0_dayThatTellsMost_24 : decode cX0_dayThatTellsMost 24 = .ok (.sipush 400, 3) := by decide +kernel
theorem dX0_dayThatTellsMost_27 : decode cX0_dayThatTellsMost 27 = .ok (.if_icmp .ge 49, 3) := by decide +kernel
theorem dX0_dayThatTellsMost_30 : decode cX0_dayThatTellsMost 30 = .ok (.aload_n 0, 1) := by decide +kernel
theorem dX0_dayThatTellsMost_31 : decode cX0_dayThatTellsMost 31 = .ok (.invokevirtual 111, 3) := by decide +kernel
theorem dX0_dayThatTellsMost_34 : decode cX0_dayThatTellsMost 34 = .ok (.istore 4, 2) := by decide +kernel
theorem dX0_dayThatTellsMost_36 : decode cX0_dayThatTellsMost 36 = .ok (.iload 4, 2) := by decide +kernel
theorem dX0_dayThatTellsMost_38 : decode cX0_dayThatTellsMost 38 = .ok (.iload_n 2, 1) := by decide +kernel
theorem dX0_dayThatTellsMost_39 : decode cX0_dayThatTellsMost 39 = .ok (.if_icmp .ge 8, 3) := by decide +kernel
theorem dX0_dayThatTellsMost_42 : decode cX0_dayThatTellsMost 42 = .ok (.iload 4, 2) := by decide +kernel
theorem dX0_dayThatTellsMost_44 : decode cX0_dayThatTellsMost 44 = .ok (.istore_n 2, 1) := by decide +kernel
theorem dX0_dayThatTellsMost_45 : decode cX0_dayThatTellsMost 45 = .ok (.iload_n 3, 1) := by decide +kernel
theorem dX0_dayThatTellsMost_46 : decode cX0_dayThatTellsMost 46 = .ok (.istore_n 1, 1) := by decide +kernel
theorem dX0_dayThatTellsMost_47 : decode cX0_dayThatTellsMost 47 = .ok (.aload_n 0, 1) := by decide +kernel
theorem dX0_dayThatTellsMost_48 : decode cX0_dayThatTellsMost 48 = .ok (.getfield 23, 3) := by decide +kernel
theorem dX0_dayThatTellsMost_51 : decode cX0_dayThatTellsMost 51 = .ok (.iconst 0, 1) := by decide +kernel
theorem dX0_dayThatTellsMost_52 : decode cX0_dayThatTellsMost 52 = .ok (.invokestatic 104, 3) := by decide +kernel
theorem dX0_dayThatTellsMost_55 : decode cX0_dayThatTellsMost 55 = .ok (.aload_n 0, 1) := by decide +kernel
theorem dX0_dayThatTellsMost_56 : decode cX0_dayThatTellsMost 56 = .ok (.getfield 26, 3) := by decide +kernel
theorem dX0_dayThatTellsMost_59 : decode cX0_dayThatTellsMost 59 = .ok (.if_icmp .ne 6, 3) := by decide +kernel
theorem dX0_dayThatTellsMost_62 : decode cX0_dayThatTellsMost 62 = .ok (.goto 14, 3) := by decide +kernel
theorem dX0_dayThatTellsMost_65 : decode cX0_dayThatTellsMost 65 = .ok (.aload_n 0, 1) := by decide +kernel
theorem dX0_dayThatTellsMost_66 : decode cX0_dayThatTellsMost 66 = .ok (.iload_n 3, 1) := by decide +kernel
theorem dX0_dayThatTellsMost_67 : decode cX0_dayThatTellsMost 67 = .ok (.invokevirtual 114, 3) := by decide +kernel
theorem dX0_dayThatTellsMost_70 : decode cX0_dayThatTellsMost 70 = .ok (.iinc 3 1, 3) := by decide +kernel
theorem dX0_dayThatTellsMost_73 : decode cX0_dayThatTellsMost 73 = .ok (.goto (-50), 3) := by decide +kernel
theorem dX0_dayThatTellsMost_76 : decode cX0_dayThatTellsMost 76 = .ok (.iload_n 1, 1) := by decide +kernel
theorem dX0_dayThatTellsMost_77 : decode cX0_dayThatTellsMost 77 = .ok (.ireturn, 1) := by decide +kernel
set_option maxRecDepth 20000 in
theorem ggX0_startAgreeing_X5_at : GoodIn wsX0_startAgreeing wsX5_at := goodIn_r _ [8] (by decide +kernel) (by decide +kernel)
set_option maxRecDepth 20000 in
theorem gX0_startAgreeing_X5_at_n104 : GoodIn wsX0_startAgreeing (wsX5_at) := ggX0_startAgreeing_X5_at
set_option maxRecDepth 20000 in
theorem ggX0_startAgreeing_X0_loadOfCase : GoodIn wsX0_startAgreeing wsX0_loadOfCase := goodIn_r _ [13, 14, 5, 15, 16, 17, 18, 19, 20, 21, 22, 23, 24, 25, 26, 27, 28, 29, 30, 31, 32, 33, 34, 35, 36, 37, 38, 39, 40, 41, 42, 43, 44, 45, 46, 47, 48, 49, 50, 51, 52, 12, 53, 62, 63, 64, 65, 66, 67, 68, 69, 70, 71, 72, 73, 74, 75, 76, 77, 78, 79, 80, 81, 82, 83, 84] (by decide +kernel) (by decide +kernel)
set_option maxRecDepth 20000 in
theorem gX0_startAgreeing_X0_loadOfCase : GoodIn wsX0_startAgreeing (wsV RX0 69 RX0 yX0_loadOfCase wsX0_loadOfCase) := goodIn_app (goodIn_of _ (by decide +kernel)) ggX0_startAgreeing_X0_loadOfCase
set_option maxRecDepth 20000 in
theorem ggX0_startAgreeing_X5_put : GoodIn wsX0_startAgreeing wsX5_put := goodIn_r _ [55] (by decide +kernel) (by decide +kernel)
set_option maxRecDepth 20000 in
theorem gX0_startAgreeing_X5_put_n100 : GoodIn wsX0_startAgreeing (wsX5_put) := ggX0_startAgreeing_X5_put
set_option maxRecDepth 20000 in
theorem ggX0_startAgreeing_X1_chargeAtFirst : GoodIn wsX0_startAgreeing wsX1_chargeAtFirst := goodIn_r _ [60, 61, 70, 71, 72, 73, 74, 75] (by decide +kernel) (by decide +kernel)
set_option maxRecDepth 20000 in
theorem gX0_startAgreeing_X1_chargeAtFirst : GoodIn wsX0_startAgreeing (wsV RX0 78 RX1 yX1_chargeAtFirst wsX1_chargeAtFirst) := goodIn_app (goodIn_of _ (by decide +kernel)) ggX0_startAgreeing_X1_chargeAtFirst
theorem dX0_startAgreeing_0 : decode cX0_startAgreeing 0 = .ok (.iconst 0, 1) := by decide +kernel
theorem dX0_startAgreeing_1 : decode cX0_startAgreeing 1 = .ok (.istore_n 1, 1) := by decide +kernel
theorem dX0_startAgreeing_2 : decode cX0_startAgreeing 2 = .ok (.iload_n 1, 1) := by decide +kernel
theorem dX0_startAgreeing_3 : decode cX0_startAgreeing 3 = .ok (.aload_n 0, 1) := by decide +kernel
theorem dX0_startAgreeing_4 : decode cX0_startAgreeing 4 = .ok (.getfield 26, 3) := by decide +kernel
theorem dX0_startAgreeing_7 : decode cX0_startAgreeing 7 = .ok (.if_icmp .ge 44, 3) := by decide +kernel
theorem dX0_startAgreeing_10 : decode cX0_startAgreeing 10 = .ok (.aload_n 0, 1) := by decide +kernel
theorem dX0_startAgreeing_11 : decode cX0_startAgreeing 11 = .ok (.getfield 15, 3) := by decide +kernel
theorem dX0_startAgreeing_14 : decode cX0_startAgreeing 14 = .ok (.iload_n 1, 1) := by decide +kernel
theorem dX0_startAgreeing_15 : decode cX0_startAgreeing 15 = .ok (.aload_n 0, 1) := by decide +kernel
theorem dX0_startAgreeing_16 : decode cX0_startAgreeing 16 = .ok (.aload_n 0, 1) := by decide +kernel
theorem dX0_startAgreeing_17 : decode cX0_startAgreeing 17 = .ok (.getfield 11, 3) := by decide +kernel
theorem dX0_startAgreeing_20 : decode cX0_startAgreeing 20 = .ok (.iload_n 1, 1) := by decide +kernel
theorem dX0_startAgreeing_21 : decode cX0_startAgreeing 21 = .ok (.invokestatic 104, 3) := by decide +kernel
theorem dX0_startAgreeing_24 : decode cX0_startAgreeing 24 = .ok (.invokevirtual 69, 3) := by decide +kernel
theorem dX0_startAgreeing_27 : decode cX0_startAgreeing 27 = .ok (.invokestatic 100, 3) := by decide +kernel
theorem dX0_startAgreeing_30 : decode cX0_startAgreeing 30 = .ok (.aload_n 0, 1) := by decide +kernel
theorem dX0_startAgreeing_31 : decode cX0_startAgreeing 31 = .ok (.getfield 18, 3) := by decide +kernel
theorem dX0_startAgreeing_34 : decode cX0_startAgreeing 34 = .ok (.iload_n 1, 1) := by decide +kernel
theorem dX0_startAgreeing_35 : decode cX0_startAgreeing 35 = .ok (.aload_n 0, 1) := by decide +kernel
theorem dX0_startAgreeing_36 : decode cX0_startAgreeing 36 = .ok (.getfield 30, 3) := by decide +kernel
theorem dX0_startAgreeing_39 : decode cX0_startAgreeing 39 = .ok (.invokevirtual 78, 3) := by decide +kernel
theorem dX0_startAgreeing_42 : decode cX0_startAgreeing 42 = .ok (.invokestatic 100, 3) := by decide +kernel
theorem dX0_startAgreeing_45 : decode cX0_startAgreeing 45 = .ok (.iinc 1 1, 3) := by decide +kernel
theorem dX0_startAgreeing_48 : decode cX0_startAgreeing 48 = .ok (.goto (-46), 3) := by decide +kernel
theorem dX0_startAgreeing_51 : decode cX0_startAgreeing 51 = .ok (.return_, 1) := by decide +kernel
set_option maxRecDepth 20000 in
theorem ggX0_greatestAtOneLevel_X5_at : GoodIn wsX0_greatestAtOneLevel wsX5_at := goodIn_r _ [11] (by decide +kernel) (by decide +kernel)
set_option maxRecDepth 20000 in
theorem gX0_greatestAtOneLevel_X5_at_n104 : GoodIn wsX0_greatestAtOneLevel (wsX5_at) := ggX0_greatestAtOneLevel_X5_at
set_option maxRecDepth 20000 in
theorem ggX0_greatestAtOneLevel_X1_levelOf : GoodIn wsX0_greatestAtOneLevel wsX1_levelOf := goodIn_r _ [16, 17, 18, 7, 19, 20, 21, 22, 15, 23, 24, 35, 36, 37, 38, 39, 40] (by decide +kernel) (by decide +kernel)
set_option maxRecDepth 20000 in
theorem gX0_greatestAtOneLevel_X1_levelOf : GoodIn wsX0_greatestAtOneLevel (wsV RX0 75 RX1 yX1_levelOf wsX1_levelOf) := goodIn_app (goodIn_of _ (by decide +kernel)) ggX0_greatestAtOneLevel_X1_levelOf
set_option maxRecDepth 20000 in
theorem ggX0_greatestAtOneLevel_X5_put : GoodIn wsX0_greatestAtOneLevel wsX5_put := goodIn_r _ [26] (by decide +kernel) (by decide +kernel)
set_option maxRecDepth 20000 in
theorem gX0_greatestAtOneLevel_X5_put_n100 : GoodIn wsX0_greatestAtOneLevel (wsX5_put) := ggX0_greatestAtOneLevel_X5_put
theorem dX0_greatestAtOneLevel_0 : decode cX0_greatestAtOneLevel 0 = .ok (.iconst 0, 1) := by decide +kernel
theorem dX0_greatestAtOneLevel_1 : decode cX0_greatestAtOneLevel 1 = .ok (.istore_n 1, 1) := by decide +kernel
theorem dX0_greatestAtOneLevel_2 : decode cX0_greatestAtOneLevel 2 = .ok (.iload_n 1, 1) := by decide +kernel
theorem dX0_greatestAtOneLevel_3 : decode cX0_greatestAtOneLevel 3 = .ok (.aload_n 0, 1) := by decide +kernel
theorem dX0_greatestAtOneLevel_4 : decode cX0_greatestAtOneLevel 4 = .ok (.getfield 23, 3) := by decide +kernel
theorem dX0_greatestAtOneLevel_7 : decode cX0_greatestAtOneLevel 7 = .ok (.arraylength, 1) := by decide +kernel
theorem dX0_greatestAtOneLevel_8 : decode cX0_greatestAtOneLevel 8 = .ok (.if_icmp .ge 16, 3) := by decide +kernel
theorem dX0_greatestAtOneLevel_11 : decode cX0_greatestAtOneLevel 11 = .ok (.aload_n 0, 1) := by decide +kernel
theorem dX0_greatestAtOneLevel_12 : decode cX0_greatestAtOneLevel 12 = .ok (.getfield 23, 3) := by decide +kernel
theorem dX0_greatestAtOneLevel_15 : decode cX0_greatestAtOneLevel 15 = .ok (.iload_n 1, 1) := by decide +kernel
theorem dX0_greatestAtOneLevel_16 : decode cX0_greatestAtOneLevel 16 = .ok (.iconst 0, 1) := by decide +kernel
theorem dX0_greatestAtOneLevel_17 : decode cX0_greatestAtOneLevel 17 = .ok (.iastore, 1) := by decide +kernel
theorem dX0_greatestAtOneLevel_18 : decode cX0_greatestAtOneLevel 18 = .ok (.iinc 1 1, 3) := by decide +kernel
theorem dX0_greatestAtOneLevel_21 : decode cX0_greatestAtOneLevel 21 = .ok (.goto (-19), 3) := by decide +kernel
theorem dX0_greatestAtOneLevel_24 : decode cX0_greatestAtOneLevel 24 = .ok (.iconst 0, 1) := by decide +kernel
theorem dX0_greatestAtOneLevel_25 : decode cX0_greatestAtOneLevel 25 = .ok (.istore_n 1, 1) := by decide +kernel
theorem dX0_greatestAtOneLevel_26 : decode cX0_greatestAtOneLevel 26 = .ok (.iconst 0, 1) := by decide +kernel
theorem dX0_greatestAtOneLevel_27 : decode cX0_greatestAtOneLevel 27 = .ok (.istore_n 2, 1) := by decide +kernel
theorem dX0_greatestAtOneLevel_28 : decode cX0_greatestAtOneLevel 28 = .ok (.iload_n 2, 1) := by decide +kernel
theorem dX0_greatestAtOneLevel_29 : decode cX0_greatestAtOneLevel 29 = .ok (.aload_n 0, 1) := by decide +kernel
theorem dX0_greatestAtOneLevel_30 : decode cX0_greatestAtOneLevel 30 = .ok (.getfield 26, 3) := by decide +kernel
theorem dX0_greatestAtOneLevel_33 : decode cX0_greatestAtOneLevel 33 = .ok (.if_icmp .ge 54, 3) := by decide +kernel
theorem dX0_greatestAtOneLevel_36 : decode cX0_greatestAtOneLevel 36 = .ok (.aload_n 0, 1) := by decide +kernel
theorem dX0_greatestAtOneLevel_37 : decode cX0_greatestAtOneLevel 37 = .ok (.getfield 30, 3) := by decide +kernel
theorem dX0_greatestAtOneLevel_40 : decode cX0_greatestAtOneLevel 40 = .ok (.aload_n 0, 1) := by decide +kernel
theorem dX0_greatestAtOneLevel_41 : decode cX0_greatestAtOneLevel 41 = .ok (.getfield 18, 3) := by decide +kernel
theorem dX0_greatestAtOneLevel_44 : decode cX0_greatestAtOneLevel 44 = .ok (.iload_n 2, 1) := by decide +kernel
theorem dX0_greatestAtOneLevel_45 : decode cX0_greatestAtOneLevel 45 = .ok (.invokestatic 104, 3) := by decide +kernel
theorem dX0_greatestAtOneLevel_48 : decode cX0_greatestAtOneLevel 48 = .ok (.invokevirtual 75, 3) := by decide +kernel
theorem dX0_greatestAtOneLevel_51 : decode cX0_greatestAtOneLevel 51 = .ok (.istore_n 3, 1) := by decide +kernel
theorem dX0_greatestAtOneLevel_52 : decode cX0_greatestAtOneLevel 52 = .ok (.aload_n 0, 1) := by decide +kernel
theorem dX0_greatestAtOneLevel_53 : decode cX0_greatestAtOneLevel 53 = .ok (.getfield 23, 3) := by decide +kernel
theorem dX0_greatestAtOneLevel_56 : decode cX0_greatestAtOneLevel 56 = .ok (.iload_n 3, 1) := by decide +kernel
theorem dX0_greatestAtOneLevel_57 : decode cX0_greatestAtOneLevel 57 = .ok (.invokestatic 104, 3) := by decide +kernel
theorem dX0_greatestAtOneLevel_60 : decode cX0_greatestAtOneLevel 60 = .ok (.iconst 1, 1) := by decide +kernel
theorem dX0_greatestAtOneLevel_61 : decode cX0_greatestAtOneLevel 61 = .ok (.iadd, 1) := by decide +kernel
theorem dX0_greatestAtOneLevel_62 : decode cX0_greatestAtOneLevel 62 = .ok (.istore 4, 2) := by decide +kernel
theorem dX0_greatestAtOneLevel_64 : decode cX0_greatestAtOneLevel 64 = .ok (.aload_n 0, 1) := by decide +kernel
theorem dX0_greatestAtOneLevel_65 : decode cX0_greatestAtOneLevel 65 = .ok (.getfield 23, 3) := by decide +kernel
theorem dX0_greatestAtOneLevel_68 : decode cX0_greatestAtOneLevel 68 = .ok (.iload_n 3, 1) := by decide +kernel
theorem dX0_greatestAtOneLevel_69 : decode cX0_greatestAtOneLevel 69 = .ok (.iload 4, 2) := by decide +kernel
theorem dX0_greatestAtOneLevel_71 : decode cX0_greatestAtOneLevel 71 = .ok (.invokestatic 100, 3) := by decide +kernel
theorem dX0_greatestAtOneLevel_74 : decode cX0_greatestAtOneLevel 74 = .ok (.iload_n 1, 1) := by decide +kernel
theorem dX0_greatestAtOneLevel_75 : decode cX0_greatestAtOneLevel 75 = .ok (.iload 4, 2) := by decide +kernel
theorem dX0_greatestAtOneLevel_77 : decode cX0_greatestAtOneLevel 77 = .ok (.invokestatic 118, 3) := by decide +kernel
theorem dX0_greatestAtOneLevel_80 : decode cX0_greatestAtOneLevel 80 = .ok (.istore_n 1, 1) := by decide +kernel
theorem dX0_greatestAtOneLevel_81 : decode cX0_greatestAtOneLevel 81 = .ok (.iinc 2 1, 3) := by decide +kernel
theorem dX0_greatestAtOneLevel_84 : decode cX0_greatestAtOneLevel 84 = .ok (.goto (-56), 3) := by decide +kernel
theorem dX0_greatestAtOneLevel_87 : decode cX0_greatestAtOneLevel 87 = .ok (.iload_n 1, 1) := by decide +kernel
theorem dX0_greatestAtOneLevel_88 : decode cX0_greatestAtOneLevel 88 = .ok (.ireturn, 1) := by decide +kernel
set_option maxRecDepth 20000 in
theorem ggX0_passDay_X1_shareOn : GoodIn wsX0_passDay wsX1_shareOn := goodIn_r _ [10, 11, 12, 13, 14, 15, 16, 36, 37, 38, 39, 40, 41] (by decide +kernel) (by decide +kernel)
set_option maxRecDepth 20000 in
theorem gX0_passDay_X1_shareOn : GoodIn wsX0_passDay (wsV RX0 124 RX1 yX1_shareOn wsX1_shareOn) := goodIn_app (goodIn_of _ (by decide +kernel)) ggX0_passDay_X1_shareOn
set_option maxRecDepth 20000 in
theorem ggX0_passDay_X5_at : GoodIn wsX0_passDay wsX5_at := goodIn_r _ [16] (by decide +kernel) (by decide +kernel)
set_option maxRecDepth 20000 in
theorem gX0_passDay_X5_at_n104 : GoodIn wsX0_passDay (wsX5_at) := ggX0_passDay_X5_at
set_option maxRecDepth 20000 in
theorem ggX0_passDay_X0_leakOf : GoodIn wsX0_passDay wsX0_leakOf := goodIn_r _ [21, 1, 28, 29, 30, 31, 32, 33, 34, 35, 36, 37, 38, 39, 40, 41] (by decide +kernel) (by decide +kernel)
set_option maxRecDepth 20000 in
theorem gX0_passDay_X0_leakOf : GoodIn wsX0_passDay (wsV RX0 66 RX0 yX0_leakOf wsX0_leakOf) := goodIn_app (goodIn_of _ (by decide +kernel)) ggX0_passDay_X0_leakOf
set_option maxRecDepth 20000 in
theorem ggX0_passDay_X1_chargeBehind : GoodIn wsX0_passDay wsX1_chargeBehind := goodIn_r _ [25] (by decide +kernel) (by decide +kernel)
set_option maxRecDepth 20000 in
theorem gX0_passDay_X1_chargeBehind : GoodIn wsX0_passDay (wsV RX0 127 RX1 yX1_chargeBehind wsX1_chargeBehind) := goodIn_app (goodIn_of _ (by decide +kernel)) ggX0_passDay_X1_chargeBehind
set_option maxRecDepth 20000 in
theorem ggX0_passDay_X5_put : GoodIn wsX0_passDay wsX5_put := goodIn_r _ [27] (by decide +kernel) (by decide +kernel)
set_option maxRecDepth 20000 in
theorem gX0_passDay_X5_put_n100 : GoodIn wsX0_passDay (wsX5_put) := ggX0_passDay_X5_put
theorem dX0_passDay_0 : decode cX0_passDay 0 = .ok (.aload_n 0, 1) := by decide +kernel
theorem dX0_passDay_1 : decode cX0_passDay 1 = .ok (.getfield 30, 3) := by decide +kernel
theorem dX0_passDay_4 : decode cX0_passDay 4 = .ok (.iload_n 1, 1) := by decide +kernel
theorem dX0_passDay_5 : decode cX0_passDay 5 = .ok (.invokevirtual 124, 3) := by decide +kernel
theorem dX0_passDay_8 : decode cX0_passDay 8 = .ok (.istore_n 2, 1) := by decide +kernel
theorem dX0_passDay_9 : decode cX0_passDay 9 = .ok (.iconst 0, 1) := by decide +kernel
theorem dX0_passDay_10 : decode cX0_passDay 10 = .ok (.istore_n 3, 1) := by decide +kernel
theorem dX0_passDay_11 : decode cX0_passDay 11 = .ok (.iload_n 3, 1) := by decide +kernel
theorem dX0_passDay_12 : decode cX0_passDay 12 = .ok (.aload_n 0, 1) := by decide +kernel
theorem dX0_passDay_13 : decode cX0_passDay 13 = .ok (.getfield 26, 3) := by decide +kernel
theorem dX0_passDay_16 : decode cX0_passDay 16 = .ok (.if_icmp .ge 57, 3) := by decide +kernel
theorem dX0_passDay_19 : decode cX0_passDay 19 = .ok (.aload_n 0, 1) := by decide +kernel
theorem dX0_passDay_20 : decode cX0_passDay 20 = .ok (.aload_n 0, 1) := by decide +kernel
theorem dX0_passDay_21 : decode cX0_passDay 21 = .ok (.getfield 11, 3) := by decide +kernel
theorem dX0_passDay_24 : decode cX0_passDay 24 = .ok (.iload_n 3, 1) := by decide +kernel
theorem dX0_passDay_25 : decode cX0_passDay 25 = .ok (.invokestatic 104, 3) := by decide +kernel
theorem dX0_passDay_28 : decode cX0_passDay 28 = .ok (.invokevirtual 66, 3) := by decide +kernel
theorem dX0_passDay_31 : decode cX0_passDay 31 = .ok (.istore 4, 2) := by decide +kernel
theorem dX0_passDay_33 : decode cX0_passDay 33 = .ok (.aload_n 0, 1) := by decide +kernel
theorem dX0_passDay_34 : decode cX0_passDay 34 = .ok (.getfield 18, 3) := by decide +kernel
theorem dX0_passDay_37 : decode cX0_passDay 37 = .ok (.iload_n 3, 1) := by decide +kernel
theorem dX0_passDay_38 : decode cX0_passDay 38 = .ok (.aload_n 0, 1) := by decide +kernel
theorem dX0_passDay_39 : decode cX0_passDay 39 = .ok (.getfield 30, 3) := by decide +kernel
theorem dX0_passDay_42 : decode cX0_passDay 42 = .ok (.aload_n 0, 1) := by decide +kernel
theorem dX0_passDay_43 : decode cX0_passDay 43 = .ok (.getfield 18, 3) := by decide +kernel
theorem dX0_passDay_46 : decode cX0_passDay 46 = .ok (.iload_n 3, 1) := by decide +kernel
theorem dX0_passDay_47 : decode cX0_passDay 47 = .ok (.invokestatic 104, 3) := by decide +kernel
theorem dX0_passDay_50 : decode cX0_passDay 50 = .ok (.iload_n 2, 1) := by decide +kernel
theorem dX0_passDay_51 : decode cX0_passDay 51 = .ok (.iload 4, 2) := by decide +kernel
theorem dX0_passDay_53 : decode cX0_passDay 53 = .ok (.aload_n 0, 1) := by decide +kernel
theorem dX0_passDay_54 : decode cX0_passDay 54 = .ok (.getfield 15, 3) := by decide +kernel
theorem dX0_passDay_57 : decode cX0_passDay 57 = .ok (.iload_n 3, 1) := by decide +kernel
theorem dX0_passDay_58 : decode cX0_passDay 58 = .ok (.invokestatic 104, 3) := by decide +kernel
theorem dX0_passDay_61 : decode cX0_passDay 61 = .ok (.invokevirtual 127, 3) := by decide +kernel
theorem dX0_passDay_64 : decode cX0_passDay 64 = .ok (.invokestatic 100, 3) := by decide +kernel
theorem dX0_passDay_67 : decode cX0_passDay 67 = .ok (.iinc 3 1, 3) := by decide +kernel
theorem dX0_passDay_70 : decode cX0_passDay 70 = .ok (.goto (-59), 3) := by decide +kernel
theorem dX0_passDay_73 : decode cX0_passDay 73 = .ok (.return_, 1) := by decide +kernel
theorem dX1_init_0 : decode cX1_init 0 = .ok (.aload_n 0, 1) := by decide +kernel
theorem dX1_init_1 : decode cX1_init 1 = .ok (.invokespecial 3, 3) := by decide +kernel
theorem dX1_init_4 : decode cX1_init 4 = .ok (.aload_n 0, 1) := by decide +kernel
theorem dX1_init_5 : decode cX1_init 5 = .ok (.iconst 3, 1) := by decide +kernel
theorem dX1_init_6 : decode cX1_init 6 = .ok (.newarray .int, 2) := by decide +kernel
theorem dX1_init_8 : decode cX1_init 8 = .ok (.dup, 1) := by decide +kernel
theorem dX1_init_9 : decode cX1_init 9 = .ok (.iconst 0, 1) := by decide +kernel
theorem dX1_init_10 : decode cX1_init 10 = .ok (.bipush 100, 2) := by decide +kernel
theorem dX1_init_12 : decode cX1_init 12 = .ok (.iastore, 1) := by decide +kernel
theorem dX1_init_13 : decode cX1_init 13 = .ok (.dup, 1) := by decide +kernel
theorem dX1_init_14 : decode cX1_init 14 = .ok (.iconst 1, 1) := by decide +kernel
theorem dX1_init_15 : decode cX1_init 15 = .ok (.bipush 90, 2) := by decide +kernel
theorem dX1_init_17 : decode cX1_init 17 = .ok (.iastore, 1) := by decide +kernel
theorem dX1_init_18 : decode cX1_init 18 = .ok (.dup, 1) := by decide +kernel
theorem dX1_init_19 : decode cX1_init 19 = .ok (.iconst 2, 1) := by decide +kernel
theorem dX1_init_20 : decode cX1_init 20 = .ok (.bipush 70, 2) := by decide +kernel
theorem dX1_init_22 : decode cX1_init 22 = .ok (.iastore, 1) := by decide +kernel
theorem dX1_init_23 : decode cX1_init 23 = .ok (.putfield 9, 3) := by decide +kernel
theorem dX1_init_26 : decode cX1_init 26 = .ok (.aload_n 0, 1) := by decide +kernel
theorem dX1_init_27 : decode cX1_init 27 = .ok (.bipush 12, 2) := by decide +kernel
theorem dX1_init_29 : decode cX1_init 29 = .ok (.newarray .int, 2) := by decide +kernel
theorem dX1_init_31 : decode cX1_init 31 = .ok (.putfield 15, 3) := by decide +kernel
theorem dX1_init_34 : decode cX1_init 34 = .ok (.aload_n 0, 1) := by decide +kernel
theorem dX1_init_35 : decode cX1_init 35 = .ok (.iconst 1, 1) := by decide +kernel
theorem dX1_init_36 : decode cX1_init 36 = .ok (.putfield 18, 3) := by decide +kernel
theorem dX1_init_39 : decode cX1_init 39 = .ok (.aload_n 0, 1) := by decide +kernel
theorem dX1_init_40 : decode cX1_init 40 = .ok (.sipush 1000, 3) := by decide +kernel
theorem dX1_init_43 : decode cX1_init 43 = .ok (.putfield 22, 3) := by decide +kernel
theorem dX1_init_46 : decode cX1_init 46 = .ok (.aload_n 0, 1) := by decide +kernel
theorem dX1_init_47 : decode cX1_init 47 = .ok (.iconst 1, 1) := by decide +kernel
theorem dX1_init_48 : decode cX1_init 48 = .ok (.putfield 25, 3) := by decide +kernel
theorem dX1_init_51 : decode cX1_init 51 = .ok (.aload_n 0, 1) := by decide +kernel
theorem dX1_init_52 : decode cX1_init 52 = .ok (.bipush 50, 2) := by decide +kernel
theorem dX1_init_54 : decode cX1_init 54 = .ok (.putfield 28, 3) := by decide +kernel
theorem dX1_init_57 : decode cX1_init 57 = .ok (.return_, 1) := by decide +kernel
theorem dX1_changeRoom_0 : decode cX1_changeRoom 0 = .ok (.aload_n 0, 1) := by decide +kernel
theorem dX1_changeRoom_1 : decode cX1_changeRoom 1 = .ok (.getfield 22, 3) := by decide +kernel
theorem dX1_changeRoom_4 : decode cX1_changeRoom 4 = .ok (.istore_n 2, 1) := by decide +kernel
theorem dX1_changeRoom_5 : decode cX1_changeRoom 5 = .ok (.aload_n 0, 1) := by decide +kernel
theorem dX1_changeRoom_6 : decode cX1_changeRoom 6 = .ok (.iload_n 1, 1) := by decide +kernel
theorem dX1_changeRoom_7 : decode cX1_changeRoom 7 = .ok (.putfield 22, 3) := by decide +kernel
theorem dX1_changeRoom_10 : decode cX1_changeRoom 10 = .ok (.iload_n 2, 1) := by decide +kernel
theorem dX1_changeRoom_11 : decode cX1_changeRoom 11 = .ok (.ireturn, 1) := by decide +kernel
theorem dX1_changeLeak_0 : decode cX1_changeLeak 0 = .ok (.aload_n 0, 1) := by decide +kernel
theorem dX1_changeLeak_1 : decode cX1_changeLeak 1 = .ok (.getfield 25, 3) := by decide +kernel
theorem dX1_changeLeak_4 : decode cX1_changeLeak 4 = .ok (.istore_n 2, 1) := by decide +kernel
theorem dX1_changeLeak_5 : decode cX1_changeLeak 5 = .ok (.aload_n 0, 1) := by decide +kernel
theorem dX1_changeLeak_6 : decode cX1_changeLeak 6 = .ok (.iload_n 1, 1) := by decide +kernel
theorem dX1_changeLeak_7 : decode cX1_changeLeak 7 = .ok (.putfield 25, 3) := by decide +kernel
theorem dX1_changeLeak_10 : decode cX1_changeLeak 10 = .ok (.iload_n 2, 1) := by decide +kernel
theorem dX1_changeLeak_11 : decode cX1_changeLeak 11 = .ok (.ireturn, 1) := by decide +kernel
theorem dX1_changeBar_0 : decode cX1_changeBar 0 = .ok (.aload_n 0, 1) := by decide +kernel
theorem dX1_changeBar_1 : decode cX1_changeBar 1 = .ok (.getfield 28, 3) := by decide +kernel
theorem dX1_changeBar_4 : decode cX1_changeBar 4 = .ok (.istore_n 2, 1) := by decide +kernel
theorem dX1_changeBar_5 : decode cX1_changeBar 5 = .ok (.aload_n 0, 1) := by decide +kernel
theorem dX1_changeBar_6 : decode cX1_changeBar 6 = .ok (.iload_n 1, 1) := by decide +kernel
theorem dX1_changeBar_7 : decode cX1_changeBar 7 = .ok (.putfield 28, 3) := by decide +kernel
theorem dX1_changeBar_10 : decode cX1_changeBar 10 = .ok (.iload_n 2, 1) := by decide +kernel
theorem dX1_changeBar_11 : decode cX1_changeBar 11 = .ok (.ireturn, 1) := by decide +kernel
set_option maxRecDepth 20000 in
theorem ggX1_changeShares_X5_put : GoodIn wsX1_changeShares wsX5_put := goodIn_r _ [4] (by decide +kernel) (by decide +kernel)
set_option maxRecDepth 20000 in
theorem gX1_changeShares_X5_put_n31 : GoodIn wsX1_changeShares (wsX5_put) := ggX1_changeShares_X5_put
theorem dX1_changeShares_0 : decode cX1_changeShares 0 = .ok (.aload_n 0, 1) := by decide +kernel
theorem dX1_changeShares_1 : decode cX1_changeShares 1 = .ok (.getfield 9, 3) := by decide +kernel
theorem dX1_changeShares_4 : decode cX1_changeShares 4 = .ok (.iconst 0, 1) := by decide +kernel
theorem dX1_changeShares_5 : decode cX1_changeShares 5 = .ok (.iload_n 1, 1) := by decide +kernel
theorem dX1_changeShares_6 : decode cX1_changeShares 6 = .ok (.invokestatic 31, 3) := by decide +kernel
theorem dX1_changeShares_9 : decode cX1_changeShares 9 = .ok (.aload_n 0, 1) := by decide +kernel
theorem dX1_changeShares_10 : decode cX1_changeShares 10 = .ok (.getfield 9, 3) := by decide +kernel
theorem dX1_changeShares_13 : decode cX1_changeShares 13 = .ok (.iconst 1, 1) := by decide +kernel
theorem dX1_changeShares_14 : decode cX1_changeShares 14 = .ok (.iload_n 2, 1) := by decide +kernel
theorem dX1_changeShares_15 : decode cX1_changeShares 15 = .ok (.invokestatic 31, 3) := by decide +kernel
theorem dX1_changeShares_18 : decode cX1_changeShares 18 = .ok (.aload_n 0, 1) := by decide +kernel
theorem dX1_changeShares_19 : decode cX1_changeShares 19 = .ok (.getfield 9, 3) := by decide +kernel
theorem dX1_changeShares_22 : decode cX1_changeShares 22 = .ok (.iconst 2, 1) := by decide +kernel
theorem dX1_changeShares_23 : decode cX1_changeShares 23 = .ok (.iload_n 3, 1) := by decide +kernel
theorem dX1_changeShares_24 : decode cX1_changeShares 24 = .ok (.invokestatic 31, 3) := by decide +kernel
theorem dX1_changeShares_27 : decode cX1_changeShares 27 = .ok (.return_, 1) := by decide +kernel
set_option maxRecDepth 20000 in
theorem ggX1_changeSeason_X5_put : GoodIn wsX1_changeSeason wsX5_put := goodIn_r _ [5] (by decide +kernel) (by decide +kernel)
set_option maxRecDepth 20000 in
theorem gX1_changeSeason_X5_put_n31 : GoodIn wsX1_changeSeason (wsX5_put) := ggX1_changeSeason_X5_put
theorem dX1_changeSeason_0 : decode cX1_changeSeason 0 = .ok (.iload_n 2, 1) := by decide +kernel
theorem dX1_changeSeason_1 : decode cX1_changeSeason 1 = .ok (.istore_n 3, 1) := by decide +kernel
theorem dX1_changeSeason_2 : decode cX1_changeSeason 2 = .ok (.iconst 0, 1) := by decide +kernel
theorem dX1_changeSeason_3 : decode cX1_changeSeason 3 = .ok (.istore 4, 2) := by decide +kernel
theorem dX1_changeSeason_5 : decode cX1_changeSeason 5 = .ok (.iload 4, 2) := by decide +kernel
theorem dX1_changeSeason_7 : decode cX1_changeSeason 7 = .ok (.iload_n 1, 1) := by decide +kernel
theorem dX1_changeSeason_8 : decode cX1_changeSeason 8 = .ok (.if_icmp .ge 32, 3) := by decide +kernel
theorem dX1_changeSeason_11 : decode cX1_changeSeason 11 = .ok (.iload 4, 2) := by decide +kernel
theorem dX1_changeSeason_13 : decode cX1_changeSeason 13 = .ok (.bipush 12, 2) := by decide +kernel
theorem dX1_changeSeason_15 : decode cX1_changeSeason 15 = .ok (.if_icmp .ge 25, 3) := by decide +kernel
theorem dX1_changeSeason_18 : decode cX1_changeSeason 18 = .ok (.aload_n 0, 1) := by decide +kernel
theorem dX1_changeSeason_19 : decode cX1_changeSeason 19 = .ok (.getfield 15, 3) := by decide +kernel
theorem dX1_changeSeason_22 : decode cX1_changeSeason 22 = .ok (.iload 4, 2) := by decide +kernel
theorem dX1_changeSeason_24 : decode cX1_changeSeason 24 = .ok (.iload_n 3, 1) := by decide +kernel
theorem dX1_changeSeason_25 : decode cX1_changeSeason 25 = .ok (.iconst 3, 1) := by decide +kernel
theorem dX1_changeSeason_26 : decode cX1_changeSeason 26 = .ok (.irem, 1) := by decide +kernel
theorem dX1_changeSeason_27 : decode cX1_changeSeason 27 = .ok (.invokestatic 31, 3) := by decide +kernel
theorem dX1_changeSeason_30 : decode cX1_changeSeason 30 = .ok (.iload_n 3, 1) := by decide +kernel
theorem dX1_changeSeason_31 : decode cX1_changeSeason 31 = .ok (.iconst 3, 1) := by decide +kernel
theorem dX1_changeSeason_32 : decode cX1_changeSeason 32 = .ok (.idiv, 1) := by decide +kernel
theorem dX1_changeSeason_33 : decode cX1_changeSeason 33 = .ok (.istore_n 3, 1) := by decide +kernel
theorem dX1_changeSeason_34 : decode cX1_changeSeason 34 = .ok (.iinc 4 1, 3) := by decide +kernel
theorem dX1_changeSeason_37 : decode cX1_changeSeason 37 = .ok (.goto (-32), 3) := by decide +kernel
theorem dX1_changeSeason_40 : decode cX1_changeSeason 40 = .ok (.aload_n 0, 1) := by decide +kernel
theorem dX1_changeSeason_41 : decode cX1_changeSeason 41 = .ok (.iload_n 1, 1) := by decide +kernel
theorem dX1_changeSeason_42 : decode cX1_changeSeason 42 = .ok (.putfield 18, 3) := by decide +kernel
theorem dX1_changeSeason_45 : decode cX1_changeSeason 45 = .ok (.return_, 1) := by decide +kernel
set_option maxRecDepth 20000 in
theorem ggX1_shareOn_X5_at : GoodIn wsX1_shareOn wsX5_at := goodIn_r _ [6] (by decide +kernel) (by decide +kernel)
set_option maxRecDepth 20000 in
theorem gX1_shareOn_X5_at_n35 : GoodIn wsX1_shareOn (wsX5_at) := ggX1_shareOn_X5_at
theorem dX1_shareOn_0 : decode cX1_shareOn 0 = .ok (.aload_n 0, 1) := by decide +kernel
theorem dX1_shareOn_1 : decode cX1_shareOn 1 = .ok (.getfield 18, 3) := by decide +kernel
theorem dX1_shareOn_4 : decode cX1_shareOn 4 = .ok (.ifCond .le 12, 3) := by decide +kernel
theorem dX1_shareOn_7 : decode cX1_shareOn 7 = .ok (.iload_n 1, 1) := by decide +kernel
theorem dX1_shareOn_8 : decode cX1_shareOn 8 = .ok (.aload_n 0, 1) := by decide +kernel
theorem dX1_shareOn_9 : decode cX1_shareOn 9 = .ok (.getfield 18, 3) := by decide +kernel
theorem dX1_shareOn_12 : decode cX1_shareOn 12 = .ok (.irem, 1) := by decide +kernel
theorem dX1_shareOn_13 : decode cX1_shareOn 13 = .ok (.goto 4, 3) := by decide +kernel
theorem dX1_shareOn_16 : decode cX1_shareOn 16 = .ok (.iconst 0, 1) := by decide +kernel
theorem dX1_shareOn_17 : decode cX1_shareOn 17 = .ok (.istore_n 2, 1) := by decide +kernel
theorem dX1_shareOn_18 : decode cX1_shareOn 18 = .ok (.aload_n 0, 1) := by decide +kernel
theorem dX1_shareOn_19 : decode cX1_shareOn 19 = .ok (.getfield 9, 3) := by decide +kernel
theorem dX1_shareOn_22 : decode cX1_shareOn 22 = .ok (.aload_n 0, 1) := by decide +kernel
theorem dX1_shareOn_23 : decode cX1_shareOn 23 = .ok (.getfield 15, 3) := by decide +kernel
theorem dX1_shareOn_26 : decode cX1_shareOn 26 = .ok (.iload_n 2, 1) := by decide +kernel
theorem dX1_shareOn_27 : decode cX1_shareOn 27 = .ok (.invokestatic 35, 3) := by decide +kernel
theorem dX1_shareOn_30 : decode cX1_shareOn 30 = .ok (.invokestatic 35, 3) := by decide +kernel
theorem dX1_shareOn_33 : decode cX1_shareOn 33 = .ok (.ireturn, 1) := by decide +kernel
theorem dX1_chargeAtFirst_0 : decode cX1_chargeAtFirst 0 = .ok (.aload_n 0, 1) := by decide +kernel
theorem dX1_chargeAtFirst_1 : decode cX1_chargeAtFirst 1 = .ok (.getfield 22, 3) := by decide +kernel
theorem dX1_chargeAtFirst_4 : decode cX1_chargeAtFirst 4 = .ok (.sipush 1000, 3) := by decide +kernel
theorem dX1_chargeAtFirst_7 : decode cX1_chargeAtFirst 7 = .ok (.imul, 1) := by decide +kernel
theorem dX1_chargeAtFirst_8 : decode cX1_chargeAtFirst 8 = .ok (.ireturn, 1) := by decide +kernel
theorem dX1_chargeBehind_0 : decode cX1_chargeBehind 0 = .ok (.iload_n 1, 1) := by decide +kernel
theorem dX1_chargeBehind_1 : decode cX1_chargeBehind 1 = .ok (.ifCond .lt 7, 3) := by decide +kernel
theorem dX1_chargeBehind_4 : decode cX1_chargeBehind 4 = .ok (.iload_n 2, 1) := by decide +kernel
theorem dX1_chargeBehind_5 : decode cX1_chargeBehind 5 = .ok (.ifCond .gt 5, 3) := by decide +kernel
theorem dX1_chargeBehind_8 : decode cX1_chargeBehind 8 = .ok (.iconst (-1), 1) := by decide +kernel
theorem dX1_chargeBehind_9 : decode cX1_chargeBehind 9 = .ok (.ireturn, 1) := by decide +kernel
theorem dX1_chargeBehind_10 : decode cX1_chargeBehind 10 = .ok (.iload_n 1, 1) := by decide +kernel
theorem dX1_chargeBehind_11 : decode cX1_chargeBehind 11 = .ok (.iload_n 3, 1) := by decide +kernel
theorem dX1_chargeBehind_12 : decode cX1_chargeBehind 12 = .ok (.imul, 1) := by decide +kernel
theorem dX1_chargeBehind_13 : decode cX1_chargeBehind 13 = .ok (.sipush 999, 3) := by decide +kernel
theorem dX1_chargeBehind_16 : decode cX1_chargeBehind 16 = .ok (.iadd, 1) := by decide +kernel
theorem dX1_chargeBehind_17 : decode cX1_chargeBehind 17 = .ok (.sipush 1000, 3) := by decide +kernel
theorem dX1_chargeBehind_20 : decode cX1_chargeBehind 20 = .ok (.idiv, 1) := by decide +kernel
theorem dX1_chargeBehind_21 : decode cX1_chargeBehind 21 = .ok (.istore 5, 2) := by decide +kernel
theorem dX1_chargeBehind_23 : decode cX1_chargeBehind 23 = .ok (.iload 4, 2) := by decide +kernel
theorem dX1_chargeBehind_25 : decode cX1_chargeBehind 25 = .ok (.bipush 100, 2) := by decide +kernel
theorem dX1_chargeBehind_27 : decode cX1_chargeBehind 27 = .ok (.imul, 1) := by decide +kernel
theorem dX1_chargeBehind_28 : decode cX1_chargeBehind 28 = .ok (.iload_n 2, 1) := by decide +kernel
theorem dX1_chargeBehind_29 : decode cX1_chargeBehind 29 = .ok (.iadd, 1) := by decide +kernel
theorem dX1_chargeBehind_30 : decode cX1_chargeBehind 30 = .ok (.iconst 1, 1) := by decide +kernel
theorem dX1_chargeBehind_31 : decode cX1_chargeBehind 31 = .ok (.isub, 1) := by decide +kernel
theorem dX1_chargeBehind_32 : decode cX1_chargeBehind 32 = .ok (.iload_n 2, 1) := by decide +kernel
theorem dX1_chargeBehind_33 : decode cX1_chargeBehind 33 = .ok (.idiv, 1) := by decide +kernel
theorem dX1_chargeBehind_34 : decode cX1_chargeBehind 34 = .ok (.istore 6, 2) := by decide +kernel
theorem dX1_chargeBehind_36 : decode cX1_chargeBehind 36 = .ok (.iload_n 1, 1) := by decide +kernel
theorem dX1_chargeBehind_37 : decode cX1_chargeBehind 37 = .ok (.iload 5, 2) := by decide +kernel
theorem dX1_chargeBehind_39 : decode cX1_chargeBehind 39 = .ok (.isub, 1) := by decide +kernel
theorem dX1_chargeBehind_40 : decode cX1_chargeBehind 40 = .ok (.iload 6, 2) := by decide +kernel
theorem dX1_chargeBehind_42 : decode cX1_chargeBehind 42 = .ok (.isub, 1) := by decide +kernel
theorem dX1_chargeBehind_43 : decode cX1_chargeBehind 43 = .ok (.ireturn, 1) := by decide +kernel
set_option maxRecDepth 20000 in
theorem ggX1_chargeFrom_X1_shareOn : GoodIn wsX1_chargeFrom wsX1_shareOn := goodIn_r _ [5, 6, 7, 8, 9, 10, 11, 16, 17, 18, 19, 20, 21] (by decide +kernel) (by decide +kernel)
set_option maxRecDepth 20000 in
theorem gX1_chargeFrom_X1_shareOn : GoodIn wsX1_chargeFrom (wsV RX1 39 RX1 yX1_shareOn wsX1_shareOn) := goodIn_app (goodIn_of _ (by decide +kernel)) ggX1_chargeFrom_X1_shareOn
set_option maxRecDepth 20000 in
theorem ggX1_chargeFrom_X1_chargeBehind : GoodIn wsX1_chargeFrom wsX1_chargeBehind := goodIn_r _ [15] (by decide +kernel) (by decide +kernel)
set_option maxRecDepth 20000 in
theorem gX1_chargeFrom_X1_chargeBehind : GoodIn wsX1_chargeFrom (wsV RX1 43 RX1 yX1_chargeBehind wsX1_chargeBehind) := goodIn_app (goodIn_of _ (by decide +kernel)) ggX1_chargeFrom_X1_chargeBehind
theorem dX1_chargeFrom_0 : decode cX1_chargeFrom 0 = .ok (.iload_n 1, 1) := by decide +kernel
theorem dX1_chargeFrom_1 : decode cX1_chargeFrom 1 = .ok (.istore 6, 2) := by decide +kernel
theorem dX1_chargeFrom_3 : decode cX1_chargeFrom 3 = .ok (.iload_n 2, 1) := by decide +kernel
theorem dX1_chargeFrom_4 : decode cX1_chargeFrom 4 = .ok (.istore 7, 2) := by decide +kernel
theorem dX1_chargeFrom_6 : decode cX1_chargeFrom 6 = .ok (.iload 7, 2) := by decide +kernel
theorem dX1_chargeFrom_8 : decode cX1_chargeFrom 8 = .ok (.iload_n 3, 1) := by decide +kernel
theorem dX1_chargeFrom_9 : decode cX1_chargeFrom 9 = .ok (.if_icmp .ge 32, 3) := by decide +kernel
theorem dX1_chargeFrom_12 : decode cX1_chargeFrom 12 = .ok (.iload 6, 2) := by decide +kernel
theorem dX1_chargeFrom_14 : decode cX1_chargeFrom 14 = .ok (.ifCond .lt 27, 3) := by decide +kernel
theorem dX1_chargeFrom_17 : decode cX1_chargeFrom 17 = .ok (.aload_n 0, 1) := by decide +kernel
theorem dX1_chargeFrom_18 : decode cX1_chargeFrom 18 = .ok (.iload 6, 2) := by decide +kernel
theorem dX1_chargeFrom_20 : decode cX1_chargeFrom 20 = .ok (.aload_n 0, 1) := by decide +kernel
theorem dX1_chargeFrom_21 : decode cX1_chargeFrom 21 = .ok (.iload 7, 2) := by decide +kernel
theorem dX1_chargeFrom_23 : decode cX1_chargeFrom 23 = .ok (.invokevirtual 39, 3) := by decide +kernel
theorem dX1_chargeFrom_26 : decode cX1_chargeFrom 26 = .ok (.iload 4, 2) := by decide +kernel
theorem dX1_chargeFrom_28 : decode cX1_chargeFrom 28 = .ok (.iload 5, 2) := by decide +kernel
theorem dX1_chargeFrom_30 : decode cX1_chargeFrom 30 = .ok (.invokevirtual 43, 3) := by decide +kernel
theorem dX1_chargeFrom_33 : decode cX1_chargeFrom 33 = .ok (.istore 6, 2) := by decide +kernel
theorem dX1_chargeFrom_35 : decode cX1_chargeFrom 35 = .ok (.iinc 7 1, 3) := by decide +kernel
theorem dX1_chargeFrom_38 : decode cX1_chargeFrom 38 = .ok (.goto (-32), 3) := by decide +kernel
theorem dX1_chargeFrom_41 : decode cX1_chargeFrom 41 = .ok (.iload 6, 2) := by decide +kernel
theorem dX1_chargeFrom_43 : decode cX1_chargeFrom 43 = .ok (.ireturn, 1) := by decide +kernel
set_option maxRecDepth 20000 in
theorem ggX1_chargeAhead_X1_chargeAtFirst : GoodIn wsX1_chargeAhead wsX1_chargeAtFirst := goodIn_r _ [5, 6, 25, 26, 27, 28, 29, 30] (by decide +kernel) (by decide +kernel)
set_option maxRecDepth 20000 in
theorem gX1_chargeAhead_X1_chargeAtFirst : GoodIn wsX1_chargeAhead (wsV RX1 47 RX1 yX1_chargeAtFirst wsX1_chargeAtFirst) := goodIn_app (goodIn_of _ (by decide +kernel)) ggX1_chargeAhead_X1_chargeAtFirst
set_option maxRecDepth 20000 in
theorem ggX1_chargeAhead_X1_chargeFrom : GoodIn wsX1_chargeAhead wsX1_chargeFrom := goodIn_r _ [10, 11, 12, 13, 4, 14, 15, 16, 17, 18, 19, 20, 21, 22, 23, 24, 25, 26, 27, 28, 29, 30] (by decide +kernel) (by decide +kernel)
set_option maxRecDepth 20000 in
theorem gX1_chargeAhead_X1_chargeFrom : GoodIn wsX1_chargeAhead (wsV RX1 51 RX1 yX1_chargeFrom wsX1_chargeFrom) := goodIn_app (goodIn_of _ (by decide +kernel)) ggX1_chargeAhead_X1_chargeFrom
theorem dX1_chargeAhead_0 : decode cX1_chargeAhead 0 = .ok (.aload_n 0, 1) := by decide +kernel
theorem dX1_chargeAhead_1 : decode cX1_chargeAhead 1 = .ok (.aload_n 0, 1) := by decide +kernel
theorem dX1_chargeAhead_2 : decode cX1_chargeAhead 2 = .ok (.invokevirtual 47, 3) := by decide +kernel
theorem dX1_chargeAhead_5 : decode cX1_chargeAhead 5 = .ok (.iconst 0, 1) := by decide +kernel
theorem dX1_chargeAhead_6 : decode cX1_chargeAhead 6 = .ok (.iload_n 1, 1) := by decide +kernel
theorem dX1_chargeAhead_7 : decode cX1_chargeAhead 7 = .ok (.iload_n 2, 1) := by decide +kernel
theorem dX1_chargeAhead_8 : decode cX1_chargeAhead 8 = .ok (.iload_n 3, 1) := by decide +kernel
theorem dX1_chargeAhead_9 : decode cX1_chargeAhead 9 = .ok (.invokevirtual 51, 3) := by decide +kernel
theorem dX1_chargeAhead_12 : decode cX1_chargeAhead 12 = .ok (.ireturn, 1) := by decide +kernel
set_option maxRecDepth 20000 in
theorem ggX1_daysLasted_X1_chargeAtFirst : GoodIn wsX1_daysLasted wsX1_chargeAtFirst := goodIn_r _ [6, 7, 22, 23, 24, 25, 26, 27] (by decide +kernel) (by decide +kernel)
set_option maxRecDepth 20000 in
theorem gX1_daysLasted_X1_chargeAtFirst : GoodIn wsX1_daysLasted (wsV RX1 47 RX1 yX1_chargeAtFirst wsX1_chargeAtFirst) := goodIn_app (goodIn_of _ (by decide +kernel)) ggX1_daysLasted_X1_chargeAtFirst
set_option maxRecDepth 20000 in
theorem ggX1_daysLasted_X1_shareOn : GoodIn wsX1_daysLasted wsX1_shareOn := goodIn_r _ [11, 12, 13, 14, 15, 16, 17, 22, 23, 24, 25, 26, 27] (by decide +kernel) (by decide +kernel)
set_option maxRecDepth 20000 in
theorem gX1_daysLasted_X1_shareOn : GoodIn wsX1_daysLasted (wsV RX1 39 RX1 yX1_shareOn wsX1_shareOn) := goodIn_app (goodIn_of _ (by decide +kernel)) ggX1_daysLasted_X1_shareOn
set_option maxRecDepth 20000 in
theorem ggX1_daysLasted_X1_chargeBehind : GoodIn wsX1_daysLasted wsX1_chargeBehind := goodIn_r _ [21] (by decide +kernel) (by decide +kernel)
set_option maxRecDepth 20000 in
theorem gX1_daysLasted_X1_chargeBehind : GoodIn wsX1_daysLasted (wsV RX1 43 RX1 yX1_chargeBehind wsX1_chargeBehind) := goodIn_app (goodIn_of _ (by decide +kernel)) ggX1_daysLasted_X1_chargeBehind
theorem dX1_daysLasted_0 : decode cX1_daysLasted 0 = .ok (.aload_n 0, 1) := by decide +kernel
theorem dX1_daysLasted_1 : decode cX1_daysLasted 1 = .ok (.invokevirtual 47, 3) := by decide +kernel
theorem dX1_daysLasted_4 : decode cX1_daysLasted 4 = .ok (.istore_n 2, 1) := by decide +kernel
theorem dX1_daysLasted_5 : decode cX1_daysLasted 5 = .ok (.iconst 0, 1) := by decide +kernel
theorem dX1_daysLasted_6 : decode cX1_daysLasted 6 = .ok (.istore_n 3, 1) := by decide +kernel
theorem dX1_daysLasted_7 : decode cX1_daysLasted 7 = .ok (.iload_n 3, 1) := by decide +kernel
theorem dX1_daysLasted_8 : decode cX1_daysLasted 8 = .ok (.sipush 400, 3) := by decide +kernel
theorem dX1_daysLasted_11 : decode cX1_daysLasted 11 = .ok (.if_icmp .ge 31, 3) := by decide +kernel
theorem dX1_daysLasted_14 : decode cX1_daysLasted 14 = .ok (.aload_n 0, 1) := by decide +kernel
theorem dX1_daysLasted_15 : decode cX1_daysLasted 15 = .ok (.iload_n 2, 1) := by decide +kernel
theorem dX1_daysLasted_16 : decode cX1_daysLasted 16 = .ok (.aload_n 0, 1) := by decide +kernel
theorem dX1_daysLasted_17 : decode cX1_daysLasted 17 = .ok (.iload_n 3, 1) := by decide +kernel
theorem dX1_daysLasted_18 : decode cX1_daysLasted 18 = .ok (.invokevirtual 39, 3) := by decide +kernel
theorem dX1_daysLasted_21 : decode cX1_daysLasted 21 = .ok (.aload_n 0, 1) := by decide +kernel
theorem dX1_daysLasted_22 : decode cX1_daysLasted 22 = .ok (.getfield 25, 3) := by decide +kernel
theorem dX1_daysLasted_25 : decode cX1_daysLasted 25 = .ok (.iload_n 1, 1) := by decide +kernel
theorem dX1_daysLasted_26 : decode cX1_daysLasted 26 = .ok (.invokevirtual 43, 3) := by decide +kernel
theorem dX1_daysLasted_29 : decode cX1_daysLasted 29 = .ok (.istore_n 2, 1) := by decide +kernel
theorem dX1_daysLasted_30 : decode cX1_daysLasted 30 = .ok (.iload_n 2, 1) := by decide +kernel
theorem dX1_daysLasted_31 : decode cX1_daysLasted 31 = .ok (.ifCond .ge 5, 3) := by decide +kernel
theorem dX1_daysLasted_34 : decode cX1_daysLasted 34 = .ok (.iload_n 3, 1) := by decide +kernel
theorem dX1_daysLasted_35 : decode cX1_daysLasted 35 = .ok (.ireturn, 1) := by decide +kernel
theorem dX1_daysLasted_36 : decode cX1_daysLasted 36 = .ok (.iinc 3 1, 3) := by decide +kernel
theorem dX1_daysLasted_39 : decode cX1_daysLasted 39 = .ok (.goto (-32), 3) := by decide +kernel
theorem dX1_daysLasted_42 : decode cX1_daysLasted 42 = .ok (.sipush 400, 3) := by decide +kernel
theorem dX1_daysLasted_45 : decode cX1_daysLasted 45 = .ok (.ireturn, 1) := by decide +kernel
set_option maxRecDepth 20000 in
theorem ggX1_levelOf_X1_chargeAtFirst : GoodIn wsX1_levelOf wsX1_chargeAtFirst := goodIn_r _ [9, 10, 11, 12, 13, 14, 15, 16] (by decide +kernel) (by decide +kernel)
set_option maxRecDepth 20000 in
theorem gX1_levelOf_X1_chargeAtFirst : GoodIn wsX1_levelOf (wsV RX1 47 RX1 yX1_chargeAtFirst wsX1_chargeAtFirst) := goodIn_app (goodIn_of _ (by decide +kernel)) ggX1_levelOf_X1_chargeAtFirst
theorem dX1_levelOf_0 : decode cX1_levelOf 0 = .ok (.aload_n 0, 1) := by decide +kernel
theorem dX1_levelOf_1 : decode cX1_levelOf 1 = .ok (.invokevirtual 47, 3) := by decide +kernel
theorem dX1_levelOf_4 : decode cX1_levelOf 4 = .ok (.istore_n 2, 1) := by decide +kernel
theorem dX1_levelOf_5 : decode cX1_levelOf 5 = .ok (.iload_n 1, 1) := by decide +kernel
theorem dX1_levelOf_6 : decode cX1_levelOf 6 = .ok (.ifCond .lt 7, 3) := by decide +kernel
theorem dX1_levelOf_9 : decode cX1_levelOf 9 = .ok (.iload_n 2, 1) := by decide +kernel
theorem dX1_levelOf_10 : decode cX1_levelOf 10 = .ok (.ifCond .gt 7, 3) := by decide +kernel
theorem dX1_levelOf_13 : decode cX1_levelOf 13 = .ok (.iconst 0, 1) := by decide +kernel
theorem dX1_levelOf_14 : decode cX1_levelOf 14 = .ok (.goto 14, 3) := by decide +kernel
theorem dX1_levelOf_17 : decode cX1_levelOf 17 = .ok (.bipush 9, 2) := by decide +kernel
theorem dX1_levelOf_19 : decode cX1_levelOf 19 = .ok (.bipush 10, 2) := by decide +kernel
theorem dX1_levelOf_21 : decode cX1_levelOf 21 = .ok (.iload_n 1, 1) := by decide +kernel
theorem dX1_levelOf_22 : decode cX1_levelOf 22 = .ok (.imul, 1) := by decide +kernel
theorem dX1_levelOf_23 : decode cX1_levelOf 23 = .ok (.iload_n 2, 1) := by decide +kernel
theorem dX1_levelOf_24 : decode cX1_levelOf 24 = .ok (.idiv, 1) := by decide +kernel
theorem dX1_levelOf_25 : decode cX1_levelOf 25 = .ok (.invokestatic 55, 3) := by decide +kernel
theorem dX1_levelOf_28 : decode cX1_levelOf 28 = .ok (.ireturn, 1) := by decide +kernel
theorem dX2_init_0 : decode cX2_init 0 = .ok (.aload_n 0, 1) := by decide +kernel
theorem dX2_init_1 : decode cX2_init 1 = .ok (.invokespecial 1, 3) := by decide +kernel
theorem dX2_init_4 : decode cX2_init 4 = .ok (.aload_n 0, 1) := by decide +kernel
theorem dX2_init_5 : decode cX2_init 5 = .ok (.bipush 8, 2) := by decide +kernel
theorem dX2_init_7 : decode cX2_init 7 = .ok (.anewarray 7, 3) := by decide +kernel
theorem dX2_init_10 : decode cX2_init 10 = .ok (.putfield 9, 3) := by decide +kernel
theorem dX2_init_13 : decode cX2_init 13 = .ok (.aload_n 0, 1) := by decide +kernel
theorem dX2_init_14 : decode cX2_init 14 = .ok (.iconst 0, 1) := by decide +kernel
theorem dX2_init_15 : decode cX2_init 15 = .ok (.putfield 15, 3) := by decide +kernel
theorem dX2_init_18 : decode cX2_init 18 = .ok (.return_, 1) := by decide +kernel
theorem dX2_isFull_0 : decode cX2_isFull 0 = .ok (.aload_n 0, 1) := by decide +kernel
theorem dX2_isFull_1 : decode cX2_isFull 1 = .ok (.getfield 15, 3) := by decide +kernel
theorem dX2_isFull_4 : decode cX2_isFull 4 = .ok (.aload_n 0, 1) := by decide +kernel
theorem dX2_isFull_5 : decode cX2_isFull 5 = .ok (.getfield 9, 3) := by decide +kernel
theorem dX2_isFull_8 : decode cX2_isFull 8 = .ok (.arraylength, 1) := by decide +kernel
theorem dX2_isFull_9 : decode cX2_isFull 9 = .ok (.if_icmp .lt 7, 3) := by decide +kernel
theorem dX2_isFull_12 : decode cX2_isFull 12 = .ok (.iconst 1, 1) := by decide +kernel
theorem dX2_isFull_13 : decode cX2_isFull 13 = .ok (.goto 4, 3) := by decide +kernel
theorem dX2_isFull_16 : decode cX2_isFull 16 = .ok (.iconst 0, 1) := by decide +kernel
theorem dX2_isFull_17 : decode cX2_isFull 17 = .ok (.ireturn, 1) := by decide +kernel
theorem dX2_numbered_0 : decode cX2_numbered 0 = .ok (.iload_n 1, 1) := by decide +kernel
theorem dX2_numbered_1 : decode cX2_numbered 1 = .ok (.ifCond .lt 29, 3) := by decide +kernel
theorem dX2_numbered_4 : decode cX2_numbered 4 = .ok (.iload_n 1, 1) := by decide +kernel
theorem dX2_numbered_5 : decode cX2_numbered 5 = .ok (.aload_n 0, 1) := by decide +kernel
theorem dX2_numbered_6 : decode cX2_numbered 6 = .ok (.getfield 15, 3) := by decide +kernel
theorem dX2_numbered_9 : decode cX2_numbered 9 = .ok (.if_icmp .ge 21, 3) := by decide +kernel
theorem dX2_numbered_12 : decode cX2_numbered 12 = .ok (.iload_n 1, 1) := by decide +kernel
theorem dX2_numbered_13 : decode cX2_numbered 13 = .ok (.aload_n 0, 1) := by decide +kernel
theorem dX2_numbered_14 : decode cX2_numbered 14 = .ok (.getfield 9, 3) := by decide +kernel
theorem dX2_numbered_17 : decode cX2_numbered 17 = .ok (.arraylength, 1) := by decide +kernel
theorem dX2_numbered_18 : decode cX2_numbered 18 = .ok (.if_icmp .ge 12, 3) := by decide +kernel
theorem dX2_numbered_21 : decode cX2_numbered 21 = .ok (.aload_n 0, 1) := by decide +kernel
theorem dX2_numbered_22 : decode cX2_numbered 22 = .ok (.getfield 9, 3) := by decide +kernel
theorem dX2_numbered_25 : decode cX2_numbered 25 = .ok (.iload_n 1, 1) := by decide +kernel
theorem dX2_numbered_26 : decode cX2_numbered 26 = .ok (.aaload, 1) := by decide +kernel
theorem dX2_numbered_27 : decode cX2_numbered 27 = .ok (.goto 4, 3) := by decide +kernel
theorem dX2_numbered_30 : decode cX2_numbered 30 = .ok (.aconst_null, 1) := by decide +kernel
theorem dX2_numbered_31 : decode cX2_numbered 31 = .ok (.areturn, 1) := by decide +kernel
set_option maxRecDepth 20000 in
theorem ggX2_numberedIn_X2_numbered : GoodIn wsX2_numberedIn wsX2_numbered := goodIn_r _ [5, 6, 7, 8, 9] (by decide +kernel) (by decide +kernel)
set_option maxRecDepth 20000 in
theorem gX2_numberedIn_X2_numbered : GoodIn wsX2_numberedIn (wsV RX2 19 RX2 yX2_numbered wsX2_numbered) := goodIn_app (goodIn_of _ (by decide +kernel)) ggX2_numberedIn_X2_numbered
theorem dX2_numberedIn_0 : decode cX2_numberedIn 0 = .ok (.iload_n 1, 1) := by decide +kernel
theorem dX2_numberedIn_1 : decode cX2_numberedIn 1 = .ok (.iload_n 2, 1) := by decide +kernel
theorem dX2_numberedIn_2 : decode cX2_numberedIn 2 = .ok (.ishr, 1) := by decide +kernel
theorem dX2_numberedIn_3 : decode cX2_numberedIn 3 = .ok (.iconst 1, 1) := by decide +kernel
theorem dX2_numberedIn_4 : decode cX2_numberedIn 4 = .ok (.iand, 1) := by decide +kernel
theorem dX2_numberedIn_5 : decode cX2_numberedIn 5 = .ok (.iconst 1, 1) := by decide +kernel
theorem dX2_numberedIn_6 : decode cX2_numberedIn 6 = .ok (.if_icmp .ne 11, 3) := by decide +kernel
theorem dX2_numberedIn_9 : decode cX2_numberedIn 9 = .ok (.aload_n 0, 1) := by decide +kernel
theorem dX2_numberedIn_10 : decode cX2_numberedIn 10 = .ok (.iload_n 2, 1) := by decide +kernel
theorem dX2_numberedIn_11 : decode cX2_numberedIn 11 = .ok (.invokevirtual 19, 3) := by decide +kernel
theorem dX2_numberedIn_14 : decode cX2_numberedIn 14 = .ok (.goto 4, 3) := by decide +kernel
theorem dX2_numberedIn_17 : decode cX2_numberedIn 17 = .ok (.aconst_null, 1) := by decide +kernel
theorem dX2_numberedIn_18 : decode cX2_numberedIn 18 = .ok (.areturn, 1) := by decide +kernel
theorem dX2_add_0 : decode cX2_add 0 = .ok (.aload_n 0, 1) := by decide +kernel
theorem dX2_add_1 : decode cX2_add 1 = .ok (.getfield 15, 3) := by decide +kernel
theorem dX2_add_4 : decode cX2_add 4 = .ok (.istore_n 2, 1) := by decide +kernel
theorem dX2_add_5 : decode cX2_add 5 = .ok (.iload_n 2, 1) := by decide +kernel
theorem dX2_add_6 : decode cX2_add 6 = .ok (.ifCond .lt 26, 3) := by decide +kernel
theorem dX2_add_9 : decode cX2_add 9 = .ok (.iload_n 2, 1) := by decide +kernel
theorem dX2_add_10 : decode cX2_add 10 = .ok (.aload_n 0, 1) := by decide +kernel
theorem dX2_add_11 : decode cX2_add 11 = .ok (.getfield 9, 3) := by decide +kernel
theorem dX2_add_14 : decode cX2_add 14 = .ok (.arraylength, 1) := by decide +kernel
theorem dX2_add_15 : decode cX2_add 15 = .ok (.if_icmp .ge 17, 3) := by decide +kernel
theorem dX2_add_18 : decode cX2_add 18 = .ok (.aload_n 0, 1) := by decide +kernel
theorem dX2_add_19 : decode cX2_add 19 = .ok (.getfield 9, 3) := by decide +kernel
theorem dX2_add_22 : decode cX2_add 22 = .ok (.iload_n 2, 1) := by decide +kernel
theorem dX2_add_23 : decode cX2_add 23 = .ok (.aload_n 1, 1) := by decide +kernel
theorem dX2_add_24 : decode cX2_add 24 = .ok (.aastore, 1) := by decide +kernel
theorem dX2_add_25 : decode cX2_add 25 = .ok (.aload_n 0, 1) := by decide +kernel
theorem dX2_add_26 : decode cX2_add 26 = .ok (.iload_n 2, 1) := by decide +kernel
theorem dX2_add_27 : decode cX2_add 27 = .ok (.iconst 1, 1) := by decide +kernel
theorem dX2_add_28 : decode cX2_add 28 = .ok (.iadd, 1) := by decide +kernel
theorem dX2_add_29 : decode cX2_add 29 = .ok (.putfield 15, 3) := by decide +kernel
theorem dX2_add_32 : decode cX2_add 32 = .ok (.iload_n 2, 1) := by decide +kernel
theorem dX2_add_33 : decode cX2_add 33 = .ok (.ireturn, 1) := by decide +kernel
theorem dX2_removeLatest_0 : decode cX2_removeLatest 0 = .ok (.aload_n 0, 1) := by decide +kernel
theorem dX2_removeLatest_1 : decode cX2_removeLatest 1 = .ok (.getfield 15, 3) := by decide +kernel
theorem dX2_removeLatest_4 : decode cX2_removeLatest 4 = .ok (.iconst 1, 1) := by decide +kernel
theorem dX2_removeLatest_5 : decode cX2_removeLatest 5 = .ok (.isub, 1) := by decide +kernel
theorem dX2_removeLatest_6 : decode cX2_removeLatest 6 = .ok (.istore_n 1, 1) := by decide +kernel
theorem dX2_removeLatest_7 : decode cX2_removeLatest 7 = .ok (.iload_n 1, 1) := by decide +kernel
theorem dX2_removeLatest_8 : decode cX2_removeLatest 8 = .ok (.ifCond .lt 24, 3) := by decide +kernel
theorem dX2_removeLatest_11 : decode cX2_removeLatest 11 = .ok (.iload_n 1, 1) := by decide +kernel
theorem dX2_removeLatest_12 : decode cX2_removeLatest 12 = .ok (.aload_n 0, 1) := by decide +kernel
theorem dX2_removeLatest_13 : decode cX2_removeLatest 13 = .ok (.getfield 9, 3) := by decide +kernel
theorem dX2_removeLatest_16 : decode cX2_removeLatest 16 = .ok (.arraylength, 1) := by decide +kernel
theorem dX2_removeLatest_17 : decode cX2_removeLatest 17 = .ok (.if_icmp .ge 15, 3) := by decide +kernel
theorem dX2_removeLatest_20 : decode cX2_removeLatest 20 = .ok (.aload_n 0, 1) := by decide +kernel
theorem dX2_removeLatest_21 : decode cX2_removeLatest 21 = .ok (.getfield 9, 3) := by decide +kernel
theorem dX2_removeLatest_24 : decode cX2_removeLatest 24 = .ok (.iload_n 1, 1) := by decide +kernel
theorem dX2_removeLatest_25 : decode cX2_removeLatest 25 = .ok (.aconst_null, 1) := by decide +kernel
theorem dX2_removeLatest_26 : decode cX2_removeLatest 26 = .ok (.aastore, 1) := by decide +kernel
theorem dX2_removeLatest_27 : decode cX2_removeLatest 27 = .ok (.aload_n 0, 1) := by decide +kernel
theorem dX2_removeLatest_28 : decode cX2_removeLatest 28 = .ok (.iload_n 1, 1) := by decide +kernel
theorem dX2_removeLatest_29 : decode cX2_removeLatest 29 = .ok (.putfield 15, 3) := by decide +kernel
theorem dX2_removeLatest_32 : decode cX2_removeLatest 32 = .ok (.aload_n 0, 1) := by decide +kernel
theorem dX2_removeLatest_33 : decode cX2_removeLatest 33 = .ok (.getfield 15, 3) := by decide +kernel
theorem dX2_removeLatest_36 : decode cX2_removeLatest 36 = .ok (.ireturn, 1) := by decide +kernel
set_option maxRecDepth 20000 in
theorem ggX2_setOfOn_X2_numbered : GoodIn wsX2_setOfOn wsX2_numbered := goodIn_r _ [6, 1, 7, 8, 9] (by decide +kernel) (by decide +kernel)
set_option maxRecDepth 20000 in
theorem gX2_setOfOn_X2_numbered : GoodIn wsX2_setOfOn (wsV RX2 19 RX2 yX2_numbered wsX2_numbered) := goodIn_app (goodIn_of _ (by decide +kernel)) ggX2_setOfOn_X2_numbered
theorem dX2_setOfOn_0 : decode cX2_setOfOn 0 = .ok (.iconst 0, 1) := by decide +kernel
theorem dX2_setOfOn_1 : decode cX2_setOfOn 1 = .ok (.istore_n 1, 1) := by decide +kernel
theorem dX2_setOfOn_2 : decode cX2_setOfOn 2 = .ok (.iconst 0, 1) := by decide +kernel
theorem dX2_setOfOn_3 : decode cX2_setOfOn 3 = .ok (.istore_n 2, 1) := by decide +kernel
theorem dX2_setOfOn_4 : decode cX2_setOfOn 4 = .ok (.iload_n 2, 1) := by decide +kernel
theorem dX2_setOfOn_5 : decode cX2_setOfOn 5 = .ok (.aload_n 0, 1) := by decide +kernel
theorem dX2_setOfOn_6 : decode cX2_setOfOn 6 = .ok (.getfield 15, 3) := by decide +kernel
theorem dX2_setOfOn_9 : decode cX2_setOfOn 9 = .ok (.if_icmp .ge 32, 3) := by decide +kernel
theorem dX2_setOfOn_12 : decode cX2_setOfOn 12 = .ok (.aload_n 0, 1) := by decide +kernel
theorem dX2_setOfOn_13 : decode cX2_setOfOn 13 = .ok (.iload_n 2, 1) := by decide +kernel
theorem dX2_setOfOn_14 : decode cX2_setOfOn 14 = .ok (.invokevirtual 19, 3) := by decide +kernel
theorem dX2_setOfOn_17 : decode cX2_setOfOn 17 = .ok (.astore_n 3, 1) := by decide +kernel
theorem dX2_setOfOn_18 : decode cX2_setOfOn 18 = .ok (.aload_n 3, 1) := by decide +kernel
theorem dX2_setOfOn_19 : decode cX2_setOfOn 19 = .ok (.ifnull 16, 3) := by decide +kernel
theorem dX2_setOfOn_22 : decode cX2_setOfOn 22 = .ok (.aload_n 3, 1) := by decide +kernel
theorem dX2_setOfOn_23 : decode cX2_setOfOn 23 = .ok (.getfield 23, 3) := by decide +kernel
theorem dX2_setOfOn_26 : decode cX2_setOfOn 26 = .ok (.ifCond .eq 9, 3) := by decide +kernel
theorem dX2_setOfOn_29 : decode cX2_setOfOn 29 = .ok (.iload_n 1, 1) := by decide +kernel
theorem dX2_setOfOn_30 : decode cX2_setOfOn 30 = .ok (.iconst 1, 1) := by decide +kernel
theorem dX2_setOfOn_31 : decode cX2_setOfOn 31 = .ok (.iload_n 2, 1) := by decide +kernel
theorem dX2_setOfOn_32 : decode cX2_setOfOn 32 = .ok (.ishl, 1) := by decide +kernel
theorem dX2_setOfOn_33 : decode cX2_setOfOn 33 = .ok (.ior, 1) := by decide +kernel
theorem dX2_setOfOn_34 : decode cX2_setOfOn 34 = .ok (.istore_n 1, 1) := by decide +kernel
theorem dX2_setOfOn_35 : decode cX2_setOfOn 35 = .ok (.iinc 2 1, 3) := by decide +kernel
theorem dX2_setOfOn_38 : decode cX2_setOfOn 38 = .ok (.goto (-34), 3) := by decide +kernel
theorem dX2_setOfOn_41 : decode cX2_setOfOn 41 = .ok (.iload_n 1, 1) := by decide +kernel
theorem dX2_setOfOn_42 : decode cX2_setOfOn 42 = .ok (.ireturn, 1) := by decide +kernel
set_option maxRecDepth 20000 in
theorem ggX2_loadOf_X2_numberedIn : GoodIn wsX2_loadOf wsX2_numberedIn := goodIn_r _ [6, 7, 8, 9, 5, 10, 1, 11, 29, 30] (by decide +kernel) (by decide +kernel)
set_option maxRecDepth 20000 in
theorem gX2_loadOf_X2_numberedIn : GoodIn wsX2_loadOf (wsV RX2 27 RX2 yX2_numberedIn wsX2_numberedIn) := goodIn_app (goodIn_of _ (by decide +kernel)) ggX2_loadOf_X2_numberedIn
set_option maxRecDepth 20000 in
theorem ggX2_loadOf_X3_drainBy : GoodIn wsX2_loadOf wsX3_drainBy := goodIn_r _ [16, 17, 18, 19, 20, 21, 22, 23, 24, 25, 26, 27, 28, 31, 32, 33, 34, 35, 36, 37] (by decide +kernel) (by decide +kernel)
set_option maxRecDepth 20000 in
theorem gX2_loadOf_X3_drainBy : GoodIn wsX2_loadOf (wsV RX2 31 RX3 yX3_drainBy wsX3_drainBy) := goodIn_app (goodIn_of _ (by decide +kernel)) ggX2_loadOf_X3_drainBy
theorem dX2_loadOf_0 : decode cX2_loadOf 0 = .ok (.iconst 0, 1) := by decide +kernel
theorem dX2_loadOf_1 : decode cX2_loadOf 1 = .ok (.istore 4, 2) := by decide +kernel
theorem dX2_loadOf_3 : decode cX2_loadOf 3 = .ok (.iconst 0, 1) := by decide +kernel
theorem dX2_loadOf_4 : decode cX2_loadOf 4 = .ok (.istore 5, 2) := by decide +kernel
theorem dX2_loadOf_6 : decode cX2_loadOf 6 = .ok (.iload 5, 2) := by decide +kernel
theorem dX2_loadOf_8 : decode cX2_loadOf 8 = .ok (.aload_n 0, 1) := by decide +kernel
theorem dX2_loadOf_9 : decode cX2_loadOf 9 = .ok (.getfield 15, 3) := by decide +kernel
theorem dX2_loadOf_12 : decode cX2_loadOf 12 = .ok (.if_icmp .ge 35, 3) := by decide +kernel
theorem dX2_loadOf_15 : decode cX2_loadOf 15 = .ok (.aload_n 0, 1) := by decide +kernel
theorem dX2_loadOf_16 : decode cX2_loadOf 16 = .ok (.iload_n 1, 1) := by decide +kernel
theorem dX2_loadOf_17 : decode cX2_loadOf 17 = .ok (.iload 5, 2) := by decide +kernel
theorem dX2_loadOf_19 : decode cX2_loadOf 19 = .ok (.invokevirtual 27, 3) := by decide +kernel
theorem dX2_loadOf_22 : decode cX2_loadOf 22 = .ok (.astore 6, 2) := by decide +kernel
theorem dX2_loadOf_24 : decode cX2_loadOf 24 = .ok (.aload 6, 2) := by decide +kernel
theorem dX2_loadOf_26 : decode cX2_loadOf 26 = .ok (.ifnull 15, 3) := by decide +kernel
theorem dX2_loadOf_29 : decode cX2_loadOf 29 = .ok (.iload 4, 2) := by decide +kernel
theorem dX2_loadOf_31 : decode cX2_loadOf 31 = .ok (.aload 6, 2) := by decide +kernel
theorem dX2_loadOf_33 : decode cX2_loadOf 33 = .ok (.iload_n 2, 1) := by decide +kernel
theorem dX2_loadOf_34 : decode cX2_loadOf 34 = .ok (.iload_n 3, 1) := by decide +kernel
theorem dX2_loadOf_35 : decode cX2_loadOf 35 = .ok (.invokevirtual 31, 3) := by decide +kernel
theorem dX2_loadOf_38 : decode cX2_loadOf 38 = .ok (.iadd, 1) := by decide +kernel
theorem dX2_loadOf_39 : decode cX2_loadOf 39 = .ok (.istore 4, 2) := by decide +kernel
theorem dX2_loadOf_41 : decode cX2_loadOf 41 = .ok (.iinc 5 1, 3) := by decide +kernel
theorem dX2_loadOf_44 : decode cX2_loadOf 44 = .ok (.goto (-38), 3) := by decide +kernel
theorem dX2_loadOf_47 : decode cX2_loadOf 47 = .ok (.iload 4, 2) := by decide +kernel
theorem dX2_loadOf_49 : decode cX2_loadOf 49 = .ok (.ireturn, 1) := by decide +kernel
set_option maxRecDepth 20000 in
theorem ggX2_worthOf_X2_numberedIn : GoodIn wsX2_worthOf wsX2_numberedIn := goodIn_r _ [6, 7, 8, 9, 5, 10, 1, 11, 12, 13] (by decide +kernel) (by decide +kernel)
set_option maxRecDepth 20000 in
theorem gX2_worthOf_X2_numberedIn : GoodIn wsX2_worthOf (wsV RX2 27 RX2 yX2_numberedIn wsX2_numberedIn) := goodIn_app (goodIn_of _ (by decide +kernel)) ggX2_worthOf_X2_numberedIn
theorem dX2_worthOf_0 : decode cX2_worthOf 0 = .ok (.iconst 0, 1) := by decide +kernel
theorem dX2_worthOf_1 : decode cX2_worthOf 1 = .ok (.istore_n 2, 1) := by decide +kernel
theorem dX2_worthOf_2 : decode cX2_worthOf 2 = .ok (.iconst 0, 1) := by decide +kernel
theorem dX2_worthOf_3 : decode cX2_worthOf 3 = .ok (.istore_n 3, 1) := by decide +kernel
theorem dX2_worthOf_4 : decode cX2_worthOf 4 = .ok (.iload_n 3, 1) := by decide +kernel
theorem dX2_worthOf_5 : decode cX2_worthOf 5 = .ok (.aload_n 0, 1) := by decide +kernel
theorem dX2_worthOf_6 : decode cX2_worthOf 6 = .ok (.getfield 15, 3) := by decide +kernel
theorem dX2_worthOf_9 : decode cX2_worthOf 9 = .ok (.if_icmp .ge 30, 3) := by decide +kernel
theorem dX2_worthOf_12 : decode cX2_worthOf 12 = .ok (.aload_n 0, 1) := by decide +kernel
theorem dX2_worthOf_13 : decode cX2_worthOf 13 = .ok (.iload_n 1, 1) := by decide +kernel
theorem dX2_worthOf_14 : decode cX2_worthOf 14 = .ok (.iload_n 3, 1) := by decide +kernel
theorem dX2_worthOf_15 : decode cX2_worthOf 15 = .ok (.invokevirtual 27, 3) := by decide +kernel
theorem dX2_worthOf_18 : decode cX2_worthOf 18 = .ok (.astore 4, 2) := by decide +kernel
theorem dX2_worthOf_20 : decode cX2_worthOf 20 = .ok (.aload 4, 2) := by decide +kernel
theorem dX2_worthOf_22 : decode cX2_worthOf 22 = .ok (.ifnull 11, 3) := by decide +kernel
theorem dX2_worthOf_25 : decode cX2_worthOf 25 = .ok (.iload_n 2, 1) := by decide +kernel
theorem dX2_worthOf_26 : decode cX2_worthOf 26 = .ok (.aload 4, 2) := by decide +kernel
theorem dX2_worthOf_28 : decode cX2_worthOf 28 = .ok (.getfield 35, 3) := by decide +kernel
theorem dX2_worthOf_31 : decode cX2_worthOf 31 = .ok (.iadd, 1) := by decide +kernel
theorem dX2_worthOf_32 : decode cX2_worthOf 32 = .ok (.istore_n 2, 1) := by decide +kernel
theorem dX2_worthOf_33 : decode cX2_worthOf 33 = .ok (.iinc 3 1, 3) := by decide +kernel
theorem dX2_worthOf_36 : decode cX2_worthOf 36 = .ok (.goto (-32), 3) := by decide +kernel
theorem dX2_worthOf_39 : decode cX2_worthOf 39 = .ok (.iload_n 2, 1) := by decide +kernel
theorem dX2_worthOf_40 : decode cX2_worthOf 40 = .ok (.ireturn, 1) := by decide +kernel
theorem dX3_init_0 : decode cX3_init 0 = .ok (.aload_n 0, 1) := by decide +kernel
theorem dX3_init_1 : decode cX3_init 1 = .ok (.invokespecial 3, 3) := by decide +kernel
theorem dX3_init_4 : decode cX3_init 4 = .ok (.aload_n 0, 1) := by decide +kernel
theorem dX3_init_5 : decode cX3_init 5 = .ok (.iload_n 1, 1) := by decide +kernel
theorem dX3_init_6 : decode cX3_init 6 = .ok (.putfield 9, 3) := by decide +kernel
theorem dX3_init_9 : decode cX3_init 9 = .ok (.aload_n 0, 1) := by decide +kernel
theorem dX3_init_10 : decode cX3_init 10 = .ok (.iload_n 2, 1) := by decide +kernel
theorem dX3_init_11 : decode cX3_init 11 = .ok (.putfield 15, 3) := by decide +kernel
theorem dX3_init_14 : decode cX3_init 14 = .ok (.aload_n 0, 1) := by decide +kernel
theorem dX3_init_15 : decode cX3_init 15 = .ok (.iload_n 3, 1) := by decide +kernel
theorem dX3_init_16 : decode cX3_init 16 = .ok (.putfield 18, 3) := by decide +kernel
theorem dX3_init_19 : decode cX3_init 19 = .ok (.aload_n 0, 1) := by decide +kernel
theorem dX3_init_20 : decode cX3_init 20 = .ok (.iload_n 1, 1) := by decide +kernel
theorem dX3_init_21 : decode cX3_init 21 = .ok (.ifCond .ne 7, 3) := by decide +kernel
theorem dX3_init_24 : decode cX3_init 24 = .ok (.iconst 0, 1) := by decide +kernel
theorem dX3_init_25 : decode cX3_init 25 = .ok (.goto 5, 3) := by decide +kernel
theorem dX3_init_28 : decode cX3_init 28 = .ok (.iload 4, 2) := by decide +kernel
theorem dX3_init_30 : decode cX3_init 30 = .ok (.putfield 21, 3) := by decide +kernel
theorem dX3_init_33 : decode cX3_init 33 = .ok (.aload_n 0, 1) := by decide +kernel
theorem dX3_init_34 : decode cX3_init 34 = .ok (.iload_n 1, 1) := by decide +kernel
theorem dX3_init_35 : decode cX3_init 35 = .ok (.iconst 2, 1) := by decide +kernel
theorem dX3_init_36 : decode cX3_init 36 = .ok (.if_icmp .ne 8, 3) := by decide +kernel
theorem dX3_init_39 : decode cX3_init 39 = .ok (.iload 5, 2) := by decide +kernel
theorem dX3_init_41 : decode cX3_init 41 = .ok (.goto 4, 3) := by decide +kernel
theorem dX3_init_44 : decode cX3_init 44 = .ok (.iconst 5, 1) := by decide +kernel
theorem dX3_init_45 : decode cX3_init 45 = .ok (.putfield 24, 3) := by decide +kernel
theorem dX3_init_48 : decode cX3_init 48 = .ok (.aload_n 0, 1) := by decide +kernel
theorem dX3_init_49 : decode cX3_init 49 = .ok (.iload 6, 2) := by decide +kernel
theorem dX3_init_51 : decode cX3_init 51 = .ok (.putfield 27, 3) := by decide +kernel
theorem dX3_init_54 : decode cX3_init 54 = .ok (.aload_n 0, 1) := by decide +kernel
theorem dX3_init_55 : decode cX3_init 55 = .ok (.iconst 1, 1) := by decide +kernel
theorem dX3_init_56 : decode cX3_init 56 = .ok (.putfield 30, 3) := by decide +kernel
theorem dX3_init_59 : decode cX3_init 59 = .ok (.return_, 1) := by decide +kernel
theorem dX3_drainBy_0 : decode cX3_drainBy 0 = .ok (.aload_n 0, 1) := by decide +kernel
theorem dX3_drainBy_1 : decode cX3_drainBy 1 = .ok (.getfield 15, 3) := by decide +kernel
theorem dX3_drainBy_4 : decode cX3_drainBy 4 = .ok (.aload_n 0, 1) := by decide +kernel
theorem dX3_drainBy_5 : decode cX3_drainBy 5 = .ok (.getfield 18, 3) := by decide +kernel
theorem dX3_drainBy_8 : decode cX3_drainBy 8 = .ok (.imul, 1) := by decide +kernel
theorem dX3_drainBy_9 : decode cX3_drainBy 9 = .ok (.istore_n 3, 1) := by decide +kernel
theorem dX3_drainBy_10 : decode cX3_drainBy 10 = .ok (.aload_n 0, 1) := by decide +kernel
theorem dX3_drainBy_11 : decode cX3_drainBy 11 = .ok (.getfield 9, 3) := by decide +kernel
theorem dX3_drainBy_14 : decode cX3_drainBy 14 = .ok (.ifCond .eq 21, 3) := by decide +kernel
theorem dX3_drainBy_17 : decode cX3_drainBy 17 = .ok (.iload_n 3, 1) := by decide +kernel
theorem dX3_drainBy_18 : decode cX3_drainBy 18 = .ok (.aload_n 0, 1) := by decide +kernel
theorem dX3_drainBy_19 : decode cX3_drainBy 19 = .ok (.getfield 21, 3) := by decide +kernel
theorem dX3_drainBy_22 : decode cX3_drainBy 22 = .ok (.iconst 0, 1) := by decide +kernel
theorem dX3_drainBy_23 : decode cX3_drainBy 23 = .ok (.aload_n 0, 1) := by decide +kernel
theorem dX3_drainBy_24 : decode cX3_drainBy 24 = .ok (.getfield 21, 3) := by decide +kernel
theorem dX3_drainBy_27 : decode cX3_drainBy 27 = .ok (.iload_n 2, 1) := by decide +kernel
theorem dX3_drainBy_28 : decode cX3_drainBy 28 = .ok (.isub, 1) := by decide +kernel
theorem dX3_drainBy_29 : decode cX3_drainBy 29 = .ok (.invokestatic 34, 3) := by decide +kernel
theorem dX3_drainBy_32 : decode cX3_drainBy 32 = .ok (.iadd, 1) := by decide +kernel
theorem dX3_drainBy_33 : decode cX3_drainBy 33 = .ok (.iadd, 1) := by decide +kernel
theorem dX3_drainBy_34 : decode cX3_drainBy 34 = .ok (.istore_n 3, 1) := by decide +kernel
theorem dX3_drainBy_35 : decode cX3_drainBy 35 = .ok (.aload_n 0, 1) := by decide +kernel
theorem dX3_drainBy_36 : decode cX3_drainBy 36 = .ok (.getfield 9, 3) := by decide +kernel
theorem dX3_drainBy_39 : decode cX3_drainBy 39 = .ok (.iconst 2, 1) := by decide +kernel
theorem dX3_drainBy_40 : decode cX3_drainBy 40 = .ok (.if_icmp .ne 16, 3) := by decide +kernel
theorem dX3_drainBy_43 : decode cX3_drainBy 43 = .ok (.iload_n 3, 1) := by decide +kernel
theorem dX3_drainBy_44 : decode cX3_drainBy 44 = .ok (.iload_n 1, 1) := by decide +kernel
theorem dX3_drainBy_45 : decode cX3_drainBy 45 = .ok (.aload_n 0, 1) := by decide +kernel
theorem dX3_drainBy_46 : decode cX3_drainBy 46 = .ok (.getfield 24, 3) := by decide +kernel
theorem dX3_drainBy_49 : decode cX3_drainBy 49 = .ok (.invokestatic 40, 3) := by decide +kernel
theorem dX3_drainBy_52 : decode cX3_drainBy 52 = .ok (.imul, 1) := by decide +kernel
theorem dX3_drainBy_53 : decode cX3_drainBy 53 = .ok (.goto 4, 3) := by decide +kernel
theorem dX3_drainBy_56 : decode cX3_drainBy 56 = .ok (.iload_n 3, 1) := by decide +kernel
theorem dX3_drainBy_57 : decode cX3_drainBy 57 = .ok (.ireturn, 1) := by decide +kernel
theorem dX3_traceOfOneAsk_0 : decode cX3_traceOfOneAsk 0 = .ok (.aload_n 0, 1) := by decide +kernel
theorem dX3_traceOfOneAsk_1 : decode cX3_traceOfOneAsk 1 = .ok (.getfield 9, 3) := by decide +kernel
theorem dX3_traceOfOneAsk_4 : decode cX3_traceOfOneAsk 4 = .ok (.lookupswitch 33 #[(0, 28), (1, 30)], 28) := by decide +kernel
theorem dX3_traceOfOneAsk_32 : decode cX3_traceOfOneAsk 32 = .ok (.iconst 1, 1) := by decide +kernel
theorem dX3_traceOfOneAsk_33 : decode cX3_traceOfOneAsk 33 = .ok (.ireturn, 1) := by decide +kernel
theorem dX3_traceOfOneAsk_34 : decode cX3_traceOfOneAsk 34 = .ok (.bipush 11, 2) := by decide +kernel
theorem dX3_traceOfOneAsk_36 : decode cX3_traceOfOneAsk 36 = .ok (.ireturn, 1) := by decide +kernel
theorem dX3_traceOfOneAsk_37 : decode cX3_traceOfOneAsk 37 = .ok (.bipush 111, 2) := by decide +kernel
theorem dX3_traceOfOneAsk_39 : decode cX3_traceOfOneAsk 39 = .ok (.ireturn, 1) := by decide +kernel
theorem dX4_init_0 : decode cX4_init 0 = .ok (.aload_n 0, 1) := by decide +kernel
theorem dX4_init_1 : decode cX4_init 1 = .ok (.invokespecial 1, 3) := by decide +kernel
theorem dX4_init_4 : decode cX4_init 4 = .ok (.aload_n 0, 1) := by decide +kernel
theorem dX4_init_5 : decode cX4_init 5 = .ok (.bipush 12, 2) := by decide +kernel
theorem dX4_init_7 : decode cX4_init 7 = .ok (.newarray .int, 2) := by decide +kernel
theorem dX4_init_9 : decode cX4_init 9 = .ok (.putfield 9, 3) := by decide +kernel
theorem dX4_init_12 : decode cX4_init 12 = .ok (.aload_n 0, 1) := by decide +kernel
theorem dX4_init_13 : decode cX4_init 13 = .ok (.bipush 12, 2) := by decide +kernel
theorem dX4_init_15 : decode cX4_init 15 = .ok (.newarray .int, 2) := by decide +kernel
theorem dX4_init_17 : decode cX4_init 17 = .ok (.putfield 13, 3) := by decide +kernel
theorem dX4_init_20 : decode cX4_init 20 = .ok (.aload_n 0, 1) := by decide +kernel
theorem dX4_init_21 : decode cX4_init 21 = .ok (.bipush 12, 2) := by decide +kernel
theorem dX4_init_23 : decode cX4_init 23 = .ok (.newarray .int, 2) := by decide +kernel
theorem dX4_init_25 : decode cX4_init 25 = .ok (.putfield 16, 3) := by decide +kernel
theorem dX4_init_28 : decode cX4_init 28 = .ok (.aload_n 0, 1) := by decide +kernel
theorem dX4_init_29 : decode cX4_init 29 = .ok (.iconst 0, 1) := by decide +kernel
theorem dX4_init_30 : decode cX4_init 30 = .ok (.putfield 19, 3) := by decide +kernel
theorem dX4_init_33 : decode cX4_init 33 = .ok (.return_, 1) := by decide +kernel
theorem dX4_isFull_0 : decode cX4_isFull 0 = .ok (.aload_n 0, 1) := by decide +kernel
theorem dX4_isFull_1 : decode cX4_isFull 1 = .ok (.getfield 19, 3) := by decide +kernel
theorem dX4_isFull_4 : decode cX4_isFull 4 = .ok (.bipush 12, 2) := by decide +kernel
theorem dX4_isFull_6 : decode cX4_isFull 6 = .ok (.if_icmp .lt 7, 3) := by decide +kernel
theorem dX4_isFull_9 : decode cX4_isFull 9 = .ok (.iconst 1, 1) := by decide +kernel
theorem dX4_isFull_10 : decode cX4_isFull 10 = .ok (.goto 4, 3) := by decide +kernel
theorem dX4_isFull_13 : decode cX4_isFull 13 = .ok (.iconst 0, 1) := by decide +kernel
theorem dX4_isFull_14 : decode cX4_isFull 14 = .ok (.ireturn, 1) := by decide +kernel
set_option maxRecDepth 20000 in
theorem ggX4_add_X5_put : GoodIn wsX4_add wsX5_put := goodIn_r _ [6] (by decide +kernel) (by decide +kernel)
set_option maxRecDepth 20000 in
theorem gX4_add_X5_put_n23 : GoodIn wsX4_add (wsX5_put) := ggX4_add_X5_put
set_option maxRecDepth 20000 in
theorem ggX4_add_X4_arrange : GoodIn wsX4_add wsX4_arrange := goodIn_r _ [11, 2, 1, 12, 13, 14, 15, 10, 16, 17, 5, 18, 4, 6, 19, 20, 21, 22] (by decide +kernel) (by decide +kernel)
set_option maxRecDepth 20000 in
theorem gX4_add_X4_arrange : GoodIn wsX4_add (wsV RX4 29 RX4 yX4_arrange wsX4_arrange) := goodIn_app (goodIn_of _ (by decide +kernel)) ggX4_add_X4_arrange
theorem dX4_add_0 : decode cX4_add 0 = .ok (.aload_n 0, 1) := by decide +kernel
theorem dX4_add_1 : decode cX4_add 1 = .ok (.getfield 9, 3) := by decide +kernel
theorem dX4_add_4 : decode cX4_add 4 = .ok (.aload_n 0, 1) := by decide +kernel
theorem dX4_add_5 : decode cX4_add 5 = .ok (.getfield 19, 3) := by decide +kernel
theorem dX4_add_8 : decode cX4_add 8 = .ok (.iload_n 1, 1) := by decide +kernel
theorem dX4_add_9 : decode cX4_add 9 = .ok (.invokestatic 23, 3) := by decide +kernel
theorem dX4_add_12 : decode cX4_add 12 = .ok (.aload_n 0, 1) := by decide +kernel
theorem dX4_add_13 : decode cX4_add 13 = .ok (.getfield 13, 3) := by decide +kernel
theorem dX4_add_16 : decode cX4_add 16 = .ok (.aload_n 0, 1) := by decide +kernel
theorem dX4_add_17 : decode cX4_add 17 = .ok (.getfield 19, 3) := by decide +kernel
theorem dX4_add_20 : decode cX4_add 20 = .ok (.iload_n 2, 1) := by decide +kernel
theorem dX4_add_21 : decode cX4_add 21 = .ok (.invokestatic 23, 3) := by decide +kernel
theorem dX4_add_24 : decode cX4_add 24 = .ok (.aload_n 0, 1) := by decide +kernel
theorem dX4_add_25 : decode cX4_add 25 = .ok (.dup, 1) := by decide +kernel
theorem dX4_add_26 : decode cX4_add 26 = .ok (.getfield 19, 3) := by decide +kernel
theorem dX4_add_29 : decode cX4_add 29 = .ok (.iconst 1, 1) := by decide +kernel
theorem dX4_add_30 : decode cX4_add 30 = .ok (.iadd, 1) := by decide +kernel
theorem dX4_add_31 : decode cX4_add 31 = .ok (.putfield 19, 3) := by decide +kernel
theorem dX4_add_34 : decode cX4_add 34 = .ok (.aload_n 0, 1) := by decide +kernel
theorem dX4_add_35 : decode cX4_add 35 = .ok (.invokevirtual 29, 3) := by decide +kernel
theorem dX4_add_38 : decode cX4_add 38 = .ok (.aload_n 0, 1) := by decide +kernel
theorem dX4_add_39 : decode cX4_add 39 = .ok (.getfield 19, 3) := by decide +kernel
theorem dX4_add_42 : decode cX4_add 42 = .ok (.ireturn, 1) := by decide +kernel
set_option maxRecDepth 20000 in
theorem ggX4_removeLatest_X4_arrange : GoodIn wsX4_removeLatest wsX4_arrange := goodIn_r _ [6, 1, 7, 8, 9, 10, 11, 5, 12, 13, 14, 15, 16, 17, 18, 19, 20, 21] (by decide +kernel) (by decide +kernel)
set_option maxRecDepth 20000 in
theorem gX4_removeLatest_X4_arrange : GoodIn wsX4_removeLatest (wsV RX4 29 RX4 yX4_arrange wsX4_arrange) := goodIn_app (goodIn_of _ (by decide +kernel)) ggX4_removeLatest_X4_arrange
theorem dX4_removeLatest_0 : decode cX4_removeLatest 0 = .ok (.aload_n 0, 1) := by decide +kernel
theorem dX4_removeLatest_1 : decode cX4_removeLatest 1 = .ok (.dup, 1) := by decide +kernel
theorem dX4_removeLatest_2 : decode cX4_removeLatest 2 = .ok (.getfield 19, 3) := by decide +kernel
theorem dX4_removeLatest_5 : decode cX4_removeLatest 5 = .ok (.iconst 1, 1) := by decide +kernel
theorem dX4_removeLatest_6 : decode cX4_removeLatest 6 = .ok (.isub, 1) := by decide +kernel
theorem dX4_removeLatest_7 : decode cX4_removeLatest 7 = .ok (.putfield 19, 3) := by decide +kernel
theorem dX4_removeLatest_10 : decode cX4_removeLatest 10 = .ok (.aload_n 0, 1) := by decide +kernel
theorem dX4_removeLatest_11 : decode cX4_removeLatest 11 = .ok (.invokevirtual 29, 3) := by decide +kernel
theorem dX4_removeLatest_14 : decode cX4_removeLatest 14 = .ok (.aload_n 0, 1) := by decide +kernel
theorem dX4_removeLatest_15 : decode cX4_removeLatest 15 = .ok (.getfield 19, 3) := by decide +kernel
theorem dX4_removeLatest_18 : decode cX4_removeLatest 18 = .ok (.ireturn, 1) := by decide +kernel
set_option maxRecDepth 20000 in
theorem ggX4_arrange_X4_dayInOrder : GoodIn wsX4_arrange wsX4_dayInOrder := goodIn_r _ [8, 2, 3, 9, 10, 11, 14, 15, 16, 17] (by decide +kernel) (by decide +kernel)
set_option maxRecDepth 20000 in
theorem gX4_arrange_X4_dayInOrder : GoodIn wsX4_arrange (wsV RX4 32 RX4 yX4_dayInOrder wsX4_dayInOrder) := goodIn_app (goodIn_of _ (by decide +kernel)) ggX4_arrange_X4_dayInOrder
set_option maxRecDepth 20000 in
theorem ggX4_arrange_X5_at : GoodIn wsX4_arrange wsX5_at := goodIn_r _ [11] (by decide +kernel) (by decide +kernel)
set_option maxRecDepth 20000 in
theorem gX4_arrange_X5_at_n36 : GoodIn wsX4_arrange (wsX5_at) := ggX4_arrange_X5_at
set_option maxRecDepth 20000 in
theorem ggX4_arrange_X5_put : GoodIn wsX4_arrange wsX5_put := goodIn_r _ [13] (by decide +kernel) (by decide +kernel)
set_option maxRecDepth 20000 in
theorem gX4_arrange_X5_put_n23 : GoodIn wsX4_arrange (wsX5_put) := ggX4_arrange_X5_put
theorem dX4_arrange_0 : decode cX4_arrange 0 = .ok (.iconst 0, 1) := by decide +kernel
theorem dX4_arrange_1 : decode cX4_arrange 1 = .ok (.istore_n 1, 1) := by decide +kernel
theorem dX4_arrange_2 : decode cX4_arrange 2 = .ok (.iload_n 1, 1) := by decide +kernel
theorem dX4_arrange_3 : decode cX4_arrange 3 = .ok (.aload_n 0, 1) := by decide +kernel
theorem dX4_arrange_4 : decode cX4_arrange 4 = .ok (.getfield 19, 3) := by decide +kernel
theorem dX4_arrange_7 : decode cX4_arrange 7 = .ok (.if_icmp .ge 66, 3) := by decide +kernel
theorem dX4_arrange_10 : decode cX4_arrange 10 = .ok (.iload_n 1, 1) := by decide +kernel
theorem dX4_arrange_11 : decode cX4_arrange 11 = .ok (.istore_n 2, 1) := by decide +kernel
theorem dX4_arrange_12 : decode cX4_arrange 12 = .ok (.iload_n 2, 1) := by decide +kernel
theorem dX4_arrange_13 : decode cX4_arrange 13 = .ok (.ifCond .le 45, 3) := by decide +kernel
theorem dX4_arrange_16 : decode cX4_arrange 16 = .ok (.aload_n 0, 1) := by decide +kernel
theorem dX4_arrange_17 : decode cX4_arrange 17 = .ok (.iload_n 2, 1) := by decide +kernel
theorem dX4_arrange_18 : decode cX4_arrange 18 = .ok (.iconst 1, 1) := by decide +kernel
theorem dX4_arrange_19 : decode cX4_arrange 19 = .ok (.isub, 1) := by decide +kernel
theorem dX4_arrange_20 : decode cX4_arrange 20 = .ok (.invokevirtual 32, 3) := by decide +kernel
theorem dX4_arrange_23 : decode cX4_arrange 23 = .ok (.aload_n 0, 1) := by decide +kernel
theorem dX4_arrange_24 : decode cX4_arrange 24 = .ok (.getfield 9, 3) := by decide +kernel
theorem dX4_arrange_27 : decode cX4_arrange 27 = .ok (.iload_n 1, 1) := by decide +kernel
theorem dX4_arrange_28 : decode cX4_arrange 28 = .ok (.invokestatic 36, 3) := by decide +kernel
theorem dX4_arrange_31 : decode cX4_arrange 31 = .ok (.if_icmp .le 27, 3) := by decide +kernel
theorem dX4_arrange_34 : decode cX4_arrange 34 = .ok (.aload_n 0, 1) := by decide +kernel
theorem dX4_arrange_35 : decode cX4_arrange 35 = .ok (.getfield 16, 3) := by decide +kernel
theorem dX4_arrange_38 : decode cX4_arrange 38 = .ok (.iload_n 2, 1) := by decide +kernel
theorem dX4_arrange_39 : decode cX4_arrange 39 = .ok (.aload_n 0, 1) := by decide +kernel
theorem dX4_arrange_40 : decode cX4_arrange 40 = .ok (.getfield 16, 3) := by decide +kernel
theorem dX4_arrange_43 : decode cX4_arrange 43 = .ok (.iload_n 2, 1) := by decide +kernel
theorem dX4_arrange_44 : decode cX4_arrange 44 = .ok (.iconst 1, 1) := by decide +kernel
theorem dX4_arrange_45 : decode cX4_arrange 45 = .ok (.isub, 1) := by decide +kernel
theorem dX4_arrange_46 : decode cX4_arrange 46 = .ok (.invokestatic 36, 3) := by decide +kernel
theorem dX4_arrange_49 : decode cX4_arrange 49 = .ok (.invokestatic 23, 3) := by decide +kernel
theorem dX4_arrange_52 : decode cX4_arrange 52 = .ok (.iinc 2 (-1), 3) := by decide +kernel
theorem dX4_arrange_55 : decode cX4_arrange 55 = .ok (.goto (-43), 3) := by decide +kernel
theorem dX4_arrange_58 : decode cX4_arrange 58 = .ok (.aload_n 0, 1) := by decide +kernel
theorem dX4_arrange_59 : decode cX4_arrange 59 = .ok (.getfield 16, 3) := by decide +kernel
theorem dX4_arrange_62 : decode cX4_arrange 62 = .ok (.iload_n 2, 1) := by decide +kernel
theorem dX4_arrange_63 : decode cX4_arrange 63 = .ok (.iload_n 1, 1) := by decide +kernel
theorem dX4_arrange_64 : decode cX4_arrange 64 = .ok (.invokestatic 23, 3) := by decide +kernel
theorem dX4_arrange_67 : decode cX4_arrange 67 = .ok (.iinc 1 1, 3) := by decide +kernel
theorem dX4_arrange_70 : decode cX4_arrange 70 = .ok (.goto (-68), 3) := by decide +kernel
theorem dX4_arrange_73 : decode cX4_arrange 73 = .ok (.return_, 1) := by decide +kernel
set_option maxRecDepth 20000 in
theorem ggX4_dayInOrder_X5_at : GoodIn wsX4_dayInOrder wsX5_at := goodIn_r _ [5] (by decide +kernel) (by decide +kernel)
set_option maxRecDepth 20000 in
theorem gX4_dayInOrder_X5_at_n36 : GoodIn wsX4_dayInOrder (wsX5_at) := ggX4_dayInOrder_X5_at
theorem dX4_dayInOrder_0 : decode cX4_dayInOrder 0 = .ok (.aload_n 0, 1) := by decide +kernel
theorem dX4_dayInOrder_1 : decode cX4_dayInOrder 1 = .ok (.getfield 9, 3) := by decide +kernel
theorem dX4_dayInOrder_4 : decode cX4_dayInOrder 4 = .ok (.aload_n 0, 1) := by decide +kernel
theorem dX4_dayInOrder_5 : decode cX4_dayInOrder 5 = .ok (.getfield 16, 3) := by decide +kernel
theorem dX4_dayInOrder_8 : decode cX4_dayInOrder 8 = .ok (.iload_n 1, 1) := by decide +kernel
theorem dX4_dayInOrder_9 : decode cX4_dayInOrder 9 = .ok (.invokestatic 36, 3) := by decide +kernel
theorem dX4_dayInOrder_12 : decode cX4_dayInOrder 12 = .ok (.invokestatic 36, 3) := by decide +kernel
theorem dX4_dayInOrder_15 : decode cX4_dayInOrder 15 = .ok (.ireturn, 1) := by decide +kernel
set_option maxRecDepth 20000 in
theorem ggX4_levelInOrder_X5_at : GoodIn wsX4_levelInOrder wsX5_at := goodIn_r _ [5] (by decide +kernel) (by decide +kernel)
set_option maxRecDepth 20000 in
theorem gX4_levelInOrder_X5_at_n36 : GoodIn wsX4_levelInOrder (wsX5_at) := ggX4_levelInOrder_X5_at
theorem dX4_levelInOrder_0 : decode cX4_levelInOrder 0 = .ok (.aload_n 0, 1) := by decide +kernel
theorem dX4_levelInOrder_1 : decode cX4_levelInOrder 1 = .ok (.getfield 13, 3) := by decide +kernel
theorem dX4_levelInOrder_4 : decode cX4_levelInOrder 4 = .ok (.aload_n 0, 1) := by decide +kernel
theorem dX4_levelInOrder_5 : decode cX4_levelInOrder 5 = .ok (.getfield 16, 3) := by decide +kernel
theorem dX4_levelInOrder_8 : decode cX4_levelInOrder 8 = .ok (.iload_n 1, 1) := by decide +kernel
theorem dX4_levelInOrder_9 : decode cX4_levelInOrder 9 = .ok (.invokestatic 36, 3) := by decide +kernel
theorem dX4_levelInOrder_12 : decode cX4_levelInOrder 12 = .ok (.invokestatic 36, 3) := by decide +kernel
theorem dX4_levelInOrder_15 : decode cX4_levelInOrder 15 = .ok (.ireturn, 1) := by decide +kernel
