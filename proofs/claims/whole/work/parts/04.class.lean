set_option maxRecDepth 20000 in
theorem ggX5_init_X1_init : GoodIn wsX5_init wsX1_init := goodIn_r _ [22, 23, 2, 3, 24, 25, 26, 27, 28, 29, 30, 56, 57, 58, 59, 60, 61] (by decide +kernel) (by decide +kernel)
set_option maxRecDepth 20000 in
theorem gX5_init_X1_init_n9 : GoodIn wsX5_init (wsX1_init) := ggX5_init_X1_init
set_option maxRecDepth 20000 in
theorem ggX5_init_X2_init : GoodIn wsX5_init wsX2_init := goodIn_r _ [32, 33, 2, 3, 34, 35, 36, 67, 68] (by decide +kernel) (by decide +kernel)
set_option maxRecDepth 20000 in
theorem gX5_init_X2_init_n18 : GoodIn wsX5_init (wsX2_init) := ggX5_init_X2_init
set_option maxRecDepth 20000 in
theorem ggX5_init_X4_init : GoodIn wsX5_init wsX4_init := goodIn_r _ [38, 39, 2, 3, 24, 40, 41, 42, 43, 69, 70, 71, 72] (by decide +kernel) (by decide +kernel)
set_option maxRecDepth 20000 in
theorem gX5_init_X4_init_n25 : GoodIn wsX5_init (wsX4_init) := ggX5_init_X4_init
set_option maxRecDepth 20000 in
theorem ggX5_init_X0_init : GoodIn wsX5_init wsX0_init := goodIn_r _ [46, 47, 2, 3, 24, 48, 49, 50, 51, 52, 53, 54, 55, 73, 74, 75, 76, 77, 78, 79, 80] (by decide +kernel) (by decide +kernel)
set_option maxRecDepth 20000 in
theorem gX5_init_X0_init : GoodIn wsX5_init (wsX0_init) := ggX5_init_X0_init
theorem dX5_init_0 : decode cX5_init 0 = .ok (.aload_n 0, 1) := by decide +kernel
theorem dX5_init_1 : decode cX5_init 1 = .ok (.invokespecial 1, 3) := by decide +kernel
theorem dX5_init_4 : decode cX5_init 4 = .ok (.aload_n 0, 1) := by decide +kernel
theorem dX5_init_5 : decode cX5_init 5 = .ok (.new 7, 3) := by decide +kernel
theorem dX5_init_8 : decode cX5_init 8 = .ok (.dup, 1) := by decide +kernel
theorem dX5_init_9 : decode cX5_init 9 = .ok (.invokespecial 9, 3) := by decide +kernel
theorem dX5_init_12 : decode cX5_init 12 = .ok (.putfield 10, 3) := by decide +kernel
theorem dX5_init_15 : decode cX5_init 15 = .ok (.aload_n 0, 1) := by decide +kernel
theorem dX5_init_16 : decode cX5_init 16 = .ok (.new 16, 3) := by decide +kernel
theorem dX5_init_19 : decode cX5_init 19 = .ok (.dup, 1) := by decide +kernel
theorem dX5_init_20 : decode cX5_init 20 = .ok (.invokespecial 18, 3) := by decide +kernel
theorem dX5_init_23 : decode cX5_init 23 = .ok (.putfield 19, 3) := by decide +kernel
theorem dX5_init_26 : decode cX5_init 26 = .ok (.aload_n 0, 1) := by decide +kernel
theorem dX5_init_27 : decode cX5_init 27 = .ok (.new 23, 3) := by decide +kernel
theorem dX5_init_30 : decode cX5_init 30 = .ok (.dup, 1) := by decide +kernel
theorem dX5_init_31 : decode cX5_init 31 = .ok (.invokespecial 25, 3) := by decide +kernel
theorem dX5_init_34 : decode cX5_init 34 = .ok (.putfield 26, 3) := by decide +kernel
theorem dX5_init_37 : decode cX5_init 37 = .ok (.aload_n 0, 1) := by decide +kernel
theorem dX5_init_38 : decode cX5_init 38 = .ok (.new 30, 3) := by decide +kernel
theorem dX5_init_41 : decode cX5_init 41 = .ok (.dup, 1) := by decide +kernel
theorem dX5_init_42 : decode cX5_init 42 = .ok (.aload_n 0, 1) := by decide +kernel
theorem dX5_init_43 : decode cX5_init 43 = .ok (.getfield 10, 3) := by decide +kernel
theorem dX5_init_46 : decode cX5_init 46 = .ok (.aload_n 0, 1) := by decide +kernel
theorem dX5_init_47 : decode cX5_init 47 = .ok (.getfield 19, 3) := by decide +kernel
theorem dX5_init_50 : decode cX5_init 50 = .ok (.aload_n 0, 1) := by decide +kernel
theorem dX5_init_51 : decode cX5_init 51 = .ok (.getfield 26, 3) := by decide +kernel
theorem dX5_init_54 : decode cX5_init 54 = .ok (.invokespecial 32, 3) := by decide +kernel
theorem dX5_init_57 : decode cX5_init 57 = .ok (.putfield 35, 3) := by decide +kernel
theorem dX5_init_60 : decode cX5_init 60 = .ok (.aload_n 0, 1) := by decide +kernel
theorem dX5_init_61 : decode cX5_init 61 = .ok (.lconst 0, 1) := by decide +kernel
theorem dX5_init_62 : decode cX5_init 62 = .ok (.putfield 39, 3) := by decide +kernel
theorem dX5_init_65 : decode cX5_init 65 = .ok (.return_, 1) := by decide +kernel
set_option maxRecDepth 20000 in
theorem ggX5_set_X5_within : GoodIn wsX5_set wsX5_within := goodIn_r _ [5] (by decide +kernel) (by decide +kernel)
set_option maxRecDepth 20000 in
theorem gX5_set_X5_within : GoodIn wsX5_set (va_wsS RX5 43 yX5_within wsX5_within) := goodIn_app (goodIn_of _ (by decide +kernel)) ggX5_set_X5_within
set_option maxRecDepth 20000 in
theorem ggX5_set_X1_changeRoom : GoodIn wsX5_set wsX1_changeRoom := goodIn_r _ [10, 11, 27, 28, 29, 30, 31, 32] (by decide +kernel) (by decide +kernel)
set_option maxRecDepth 20000 in
theorem gX5_set_X1_changeRoom : GoodIn wsX5_set (wsV RX5 47 RX1 yX1_changeRoom wsX1_changeRoom) := goodIn_app (goodIn_of _ (by decide +kernel)) ggX5_set_X1_changeRoom
set_option maxRecDepth 20000 in
theorem ggX5_set_X1_changeLeak : GoodIn wsX5_set wsX1_changeLeak := goodIn_r _ [15, 16, 27, 28, 29, 30, 31, 32] (by decide +kernel) (by decide +kernel)
set_option maxRecDepth 20000 in
theorem gX5_set_X1_changeLeak : GoodIn wsX5_set (wsV RX5 51 RX1 yX1_changeLeak wsX1_changeLeak) := goodIn_app (goodIn_of _ (by decide +kernel)) ggX5_set_X1_changeLeak
set_option maxRecDepth 20000 in
theorem ggX5_set_X1_changeBar : GoodIn wsX5_set wsX1_changeBar := goodIn_r _ [20, 21, 27, 28, 29, 30, 31, 32] (by decide +kernel) (by decide +kernel)
set_option maxRecDepth 20000 in
theorem gX5_set_X1_changeBar : GoodIn wsX5_set (wsV RX5 54 RX1 yX1_changeBar wsX1_changeBar) := goodIn_app (goodIn_of _ (by decide +kernel)) ggX5_set_X1_changeBar
theorem dX5_set_0 : decode cX5_set 0 = .ok (.iload_n 1, 1) := by decide +kernel
theorem dX5_set_1 : decode cX5_set 1 = .ok (.tableswitch 98 0 2 #[27, 51, 74], 27) := by decide +kernel
theorem dX5_set_28 : decode cX5_set 28 = .ok (.iload_n 2, 1) := by decide +kernel
theorem dX5_set_29 : decode cX5_set 29 = .ok (.iconst 1, 1) := by decide +kernel
theorem dX5_set_30 : decode cX5_set 30 = .ok (.sipush 5000, 3) := by decide +kernel
theorem dX5_set_33 : decode cX5_set 33 = .ok (.invokestatic 43, 3) := by decide +kernel
theorem dX5_set_36 : decode cX5_set 36 = .ok (.ifCond .eq 14, 3) := by decide +kernel
theorem dX5_set_39 : decode cX5_set 39 = .ok (.aload_n 0, 1) := by decide +kernel
theorem dX5_set_40 : decode cX5_set 40 = .ok (.getfield 10, 3) := by decide +kernel
theorem dX5_set_43 : decode cX5_set 43 = .ok (.iload_n 2, 1) := by decide +kernel
theorem dX5_set_44 : decode cX5_set 44 = .ok (.invokevirtual 47, 3) := by decide +kernel
theorem dX5_set_47 : decode cX5_set 47 = .ok (.goto 4, 3) := by decide +kernel
theorem dX5_set_50 : decode cX5_set 50 = .ok (.iconst (-1), 1) := by decide +kernel
theorem dX5_set_51 : decode cX5_set 51 = .ok (.ireturn, 1) := by decide +kernel
theorem dX5_set_52 : decode cX5_set 52 = .ok (.iload_n 2, 1) := by decide +kernel
theorem dX5_set_53 : decode cX5_set 53 = .ok (.iconst 0, 1) := by decide +kernel
theorem dX5_set_54 : decode cX5_set 54 = .ok (.bipush 20, 2) := by decide +kernel
theorem dX5_set_56 : decode cX5_set 56 = .ok (.invokestatic 43, 3) := by decide +kernel
theorem dX5_set_59 : decode cX5_set 59 = .ok (.ifCond .eq 14, 3) := by decide +kernel
theorem dX5_set_62 : decode cX5_set 62 = .ok (.aload_n 0, 1) := by decide +kernel
theorem dX5_set_63 : decode cX5_set 63 = .ok (.getfield 10, 3) := by decide +kernel
theorem dX5_set_66 : decode cX5_set 66 = .ok (.iload_n 2, 1) := by decide +kernel
theorem dX5_set_67 : decode cX5_set 67 = .ok (.invokevirtual 51, 3) := by decide +kernel
theorem dX5_set_70 : decode cX5_set 70 = .ok (.goto 4, 3) := by decide +kernel
theorem dX5_set_73 : decode cX5_set 73 = .ok (.iconst (-1), 1) := by decide +kernel
theorem dX5_set_74 : decode cX5_set 74 = .ok (.ireturn, 1) := by decide +kernel
theorem dX5_set_75 : decode cX5_set 75 = .ok (.iload_n 2, 1) := by decide +kernel
theorem dX5_set_76 : decode cX5_set 76 = .ok (.iconst 1, 1) := by decide +kernel
theorem dX5_set_77 : decode cX5_set 77 = .ok (.sipush 500, 3) := by decide +kernel
theorem dX5_set_80 : decode cX5_set 80 = .ok (.invokestatic 43, 3) := by decide +kernel
theorem dX5_set_83 : decode cX5_set 83 = .ok (.ifCond .eq 14, 3) := by decide +kernel
theorem dX5_set_86 : decode cX5_set 86 = .ok (.aload_n 0, 1) := by decide +kernel
theorem dX5_set_87 : decode cX5_set 87 = .ok (.getfield 10, 3) := by decide +kernel
theorem dX5_set_90 : decode cX5_set 90 = .ok (.iload_n 2, 1) := by decide +kernel
theorem dX5_set_91 : decode cX5_set 91 = .ok (.invokevirtual 54, 3) := by decide +kernel
theorem dX5_set_94 : decode cX5_set 94 = .ok (.goto 4, 3) := by decide +kernel
theorem dX5_set_97 : decode cX5_set 97 = .ok (.iconst (-1), 1) := by decide +kernel
theorem dX5_set_98 : decode cX5_set 98 = .ok (.ireturn, 1) := by decide +kernel
theorem dX5_set_99 : decode cX5_set 99 = .ok (.iconst (-1), 1) := by decide +kernel
theorem dX5_set_100 : decode cX5_set 100 = .ok (.ireturn, 1) := by decide +kernel
set_option maxRecDepth 20000 in
theorem ggX5_shares_X5_within : GoodIn wsX5_shares wsX5_within := goodIn_r _ [5] (by decide +kernel) (by decide +kernel)
set_option maxRecDepth 20000 in
theorem gX5_shares_X5_within : GoodIn wsX5_shares (va_wsS RX5 43 yX5_within wsX5_within) := goodIn_app (goodIn_of _ (by decide +kernel)) ggX5_shares_X5_within
set_option maxRecDepth 20000 in
theorem ggX5_shares_X1_changeShares : GoodIn wsX5_shares wsX1_changeShares := goodIn_r _ [10, 11, 12, 4, 13, 19, 20, 21, 22, 23, 24] (by decide +kernel) (by decide +kernel)
set_option maxRecDepth 20000 in
theorem gX5_shares_X1_changeShares : GoodIn wsX5_shares (wsV RX5 57 RX1 yX1_changeShares wsX1_changeShares) := goodIn_app (goodIn_of _ (by decide +kernel)) ggX5_shares_X1_changeShares
theorem dX5_shares_0 : decode cX5_shares 0 = .ok (.iload_n 1, 1) := by decide +kernel
theorem dX5_shares_1 : decode cX5_shares 1 = .ok (.bipush 10, 2) := by decide +kernel
theorem dX5_shares_3 : decode cX5_shares 3 = .ok (.bipush 100, 2) := by decide +kernel
theorem dX5_shares_5 : decode cX5_shares 5 = .ok (.invokestatic 43, 3) := by decide +kernel
theorem dX5_shares_8 : decode cX5_shares 8 = .ok (.ifCond .eq 23, 3) := by decide +kernel
theorem dX5_shares_11 : decode cX5_shares 11 = .ok (.iload_n 2, 1) := by decide +kernel
theorem dX5_shares_12 : decode cX5_shares 12 = .ok (.bipush 10, 2) := by decide +kernel
theorem dX5_shares_14 : decode cX5_shares 14 = .ok (.iload_n 1, 1) := by decide +kernel
theorem dX5_shares_15 : decode cX5_shares 15 = .ok (.invokestatic 43, 3) := by decide +kernel
theorem dX5_shares_18 : decode cX5_shares 18 = .ok (.ifCond .eq 13, 3) := by decide +kernel
theorem dX5_shares_21 : decode cX5_shares 21 = .ok (.iload_n 3, 1) := by decide +kernel
theorem dX5_shares_22 : decode cX5_shares 22 = .ok (.bipush 10, 2) := by decide +kernel
theorem dX5_shares_24 : decode cX5_shares 24 = .ok (.iload_n 2, 1) := by decide +kernel
theorem dX5_shares_25 : decode cX5_shares 25 = .ok (.invokestatic 43, 3) := by decide +kernel
theorem dX5_shares_28 : decode cX5_shares 28 = .ok (.ifCond .ne 5, 3) := by decide +kernel
theorem dX5_shares_31 : decode cX5_shares 31 = .ok (.iconst (-1), 1) := by decide +kernel
theorem dX5_shares_32 : decode cX5_shares 32 = .ok (.ireturn, 1) := by decide +kernel
theorem dX5_shares_33 : decode cX5_shares 33 = .ok (.aload_n 0, 1) := by decide +kernel
theorem dX5_shares_34 : decode cX5_shares 34 = .ok (.getfield 10, 3) := by decide +kernel
theorem dX5_shares_37 : decode cX5_shares 37 = .ok (.iload_n 1, 1) := by decide +kernel
theorem dX5_shares_38 : decode cX5_shares 38 = .ok (.iload_n 2, 1) := by decide +kernel
theorem dX5_shares_39 : decode cX5_shares 39 = .ok (.iload_n 3, 1) := by decide +kernel
theorem dX5_shares_40 : decode cX5_shares 40 = .ok (.invokevirtual 57, 3) := by decide +kernel
theorem dX5_shares_43 : decode cX5_shares 43 = .ok (.iconst 1, 1) := by decide +kernel
theorem dX5_shares_44 : decode cX5_shares 44 = .ok (.ireturn, 1) := by decide +kernel
set_option maxRecDepth 20000 in
theorem ggX5_season_X5_within : GoodIn wsX5_season wsX5_within := goodIn_r _ [5] (by decide +kernel) (by decide +kernel)
set_option maxRecDepth 20000 in
theorem gX5_season_X5_within : GoodIn wsX5_season (va_wsS RX5 43 yX5_within wsX5_within) := goodIn_app (goodIn_of _ (by decide +kernel)) ggX5_season_X5_within
set_option maxRecDepth 20000 in
theorem ggX5_season_X5_powerOfThree : GoodIn wsX5_season wsX5_powerOfThree := goodIn_r _ [8] (by decide +kernel) (by decide +kernel)
set_option maxRecDepth 20000 in
theorem gX5_season_X5_powerOfThree : GoodIn wsX5_season (va_wsS RX5 61 yX5_powerOfThree wsX5_powerOfThree) := goodIn_app (goodIn_of _ (by decide +kernel)) ggX5_season_X5_powerOfThree
set_option maxRecDepth 20000 in
theorem ggX5_season_X1_changeSeason : GoodIn wsX5_season wsX1_changeSeason := goodIn_r _ [13, 14, 15, 16, 4, 17, 23, 24, 25, 26, 27, 28] (by decide +kernel) (by decide +kernel)
set_option maxRecDepth 20000 in
theorem gX5_season_X1_changeSeason : GoodIn wsX5_season (wsV RX5 64 RX1 yX1_changeSeason wsX1_changeSeason) := goodIn_app (goodIn_of _ (by decide +kernel)) ggX5_season_X1_changeSeason
theorem dX5_season_0 : decode cX5_season 0 = .ok (.iload_n 1, 1) := by decide +kernel
theorem dX5_season_1 : decode cX5_season 1 = .ok (.iconst 1, 1) := by decide +kernel
theorem dX5_season_2 : decode cX5_season 2 = .ok (.bipush 12, 2) := by decide +kernel
theorem dX5_season_4 : decode cX5_season 4 = .ok (.invokestatic 43, 3) := by decide +kernel
theorem dX5_season_7 : decode cX5_season 7 = .ok (.ifCond .eq 17, 3) := by decide +kernel
theorem dX5_season_10 : decode cX5_season 10 = .ok (.iload_n 2, 1) := by decide +kernel
theorem dX5_season_11 : decode cX5_season 11 = .ok (.iconst 0, 1) := by decide +kernel
theorem dX5_season_12 : decode cX5_season 12 = .ok (.iload_n 1, 1) := by decide +kernel
theorem dX5_season_13 : decode cX5_season 13 = .ok (.invokestatic 61, 3) := by decide +kernel
theorem dX5_season_16 : decode cX5_season 16 = .ok (.iconst 1, 1) := by decide +kernel
theorem dX5_season_17 : decode cX5_season 17 = .ok (.isub, 1) := by decide +kernel
theorem dX5_season_18 : decode cX5_season 18 = .ok (.invokestatic 43, 3) := by decide +kernel
theorem dX5_season_21 : decode cX5_season 21 = .ok (.ifCond .ne 5, 3) := by decide +kernel
theorem dX5_season_24 : decode cX5_season 24 = .ok (.iconst (-1), 1) := by decide +kernel
theorem dX5_season_25 : decode cX5_season 25 = .ok (.ireturn, 1) := by decide +kernel
theorem dX5_season_26 : decode cX5_season 26 = .ok (.aload_n 0, 1) := by decide +kernel
theorem dX5_season_27 : decode cX5_season 27 = .ok (.getfield 10, 3) := by decide +kernel
theorem dX5_season_30 : decode cX5_season 30 = .ok (.iload_n 1, 1) := by decide +kernel
theorem dX5_season_31 : decode cX5_season 31 = .ok (.iload_n 2, 1) := by decide +kernel
theorem dX5_season_32 : decode cX5_season 32 = .ok (.invokevirtual 64, 3) := by decide +kernel
theorem dX5_season_35 : decode cX5_season 35 = .ok (.iload_n 1, 1) := by decide +kernel
theorem dX5_season_36 : decode cX5_season 36 = .ok (.ireturn, 1) := by decide +kernel
set_option maxRecDepth 20000 in
theorem ggX5_share_X5_isDay : GoodIn wsX5_share wsX5_isDay := goodIn_r _ [5, 6, 7, 4, 8] (by decide +kernel) (by decide +kernel)
set_option maxRecDepth 20000 in
theorem gX5_share_X5_isDay : GoodIn wsX5_share (va_wsS RX5 68 yX5_isDay wsX5_isDay) := goodIn_app (goodIn_of _ (by decide +kernel)) ggX5_share_X5_isDay
set_option maxRecDepth 20000 in
theorem ggX5_share_X1_shareOn : GoodIn wsX5_share wsX1_shareOn := goodIn_r _ [13, 14, 15, 16, 17, 4, 18, 24, 25, 26, 27, 28, 29] (by decide +kernel) (by decide +kernel)
set_option maxRecDepth 20000 in
theorem gX5_share_X1_shareOn : GoodIn wsX5_share (wsV RX5 72 RX1 yX1_shareOn wsX1_shareOn) := goodIn_app (goodIn_of _ (by decide +kernel)) ggX5_share_X1_shareOn
theorem dX5_share_0 : decode cX5_share 0 = .ok (.iload_n 1, 1) := by decide +kernel
theorem dX5_share_1 : decode cX5_share 1 = .ok (.invokestatic 68, 3) := by decide +kernel
theorem dX5_share_4 : decode cX5_share 4 = .ok (.ifCond .eq 14, 3) := by decide +kernel
theorem dX5_share_7 : decode cX5_share 7 = .ok (.aload_n 0, 1) := by decide +kernel
theorem dX5_share_8 : decode cX5_share 8 = .ok (.getfield 10, 3) := by decide +kernel
theorem dX5_share_11 : decode cX5_share 11 = .ok (.iload_n 1, 1) := by decide +kernel
theorem dX5_share_12 : decode cX5_share 12 = .ok (.invokevirtual 72, 3) := by decide +kernel
theorem dX5_share_15 : decode cX5_share 15 = .ok (.goto 4, 3) := by decide +kernel
theorem dX5_share_18 : decode cX5_share 18 = .ok (.iconst (-1), 1) := by decide +kernel
theorem dX5_share_19 : decode cX5_share 19 = .ok (.ireturn, 1) := by decide +kernel
set_option maxRecDepth 20000 in
theorem ggX5_duty_X5_within : GoodIn wsX5_duty wsX5_within := goodIn_r _ [8] (by decide +kernel) (by decide +kernel)
set_option maxRecDepth 20000 in
theorem gX5_duty_X5_within : GoodIn wsX5_duty (va_wsS RX5 43 yX5_within wsX5_within) := goodIn_app (goodIn_of _ (by decide +kernel)) ggX5_duty_X5_within
set_option maxRecDepth 20000 in
theorem ggX5_duty_X5_isTries : GoodIn wsX5_duty wsX5_isTries := goodIn_r _ [11, 5, 6, 7, 8] (by decide +kernel) (by decide +kernel)
set_option maxRecDepth 20000 in
theorem gX5_duty_X5_isTries : GoodIn wsX5_duty (va_wsS RX5 75 yX5_isTries wsX5_isTries) := goodIn_app (goodIn_of _ (by decide +kernel)) ggX5_duty_X5_isTries
set_option maxRecDepth 20000 in
theorem ggX5_duty_X2_isFull : GoodIn wsX5_duty wsX2_isFull := goodIn_r _ [16, 17, 18, 48, 49] (by decide +kernel) (by decide +kernel)
set_option maxRecDepth 20000 in
theorem gX5_duty_X2_isFull : GoodIn wsX5_duty (wsV RX5 78 RX2 yX2_isFull wsX2_isFull) := goodIn_app (goodIn_of _ (by decide +kernel)) ggX5_duty_X2_isFull
set_option maxRecDepth 20000 in
theorem ggX5_duty_X3_init : GoodIn wsX5_duty wsX3_init := goodIn_r _ [21, 22, 23, 24, 25, 26, 27, 28, 29, 30, 31, 41, 42, 43, 44, 45, 46, 47] (by decide +kernel) (by decide +kernel)
set_option maxRecDepth 20000 in
theorem gX5_duty_X3_init : GoodIn wsX5_duty (wsX3_init) := ggX5_duty_X3_init
set_option maxRecDepth 20000 in
theorem ggX5_duty_X2_add : GoodIn wsX5_duty wsX2_add := goodIn_r _ [35, 17, 18, 48, 49] (by decide +kernel) (by decide +kernel)
set_option maxRecDepth 20000 in
theorem gX5_duty_X2_add : GoodIn wsX5_duty (wsV RX5 87 RX2 yX2_add wsX2_add) := goodIn_app (goodIn_of _ (by decide +kernel)) ggX5_duty_X2_add
theorem dX5_duty_0 : decode cX5_duty 0 = .ok (.iload_n 1, 1) := by decide +kernel
theorem dX5_duty_1 : decode cX5_duty 1 = .ok (.iconst 0, 1) := by decide +kernel
theorem dX5_duty_2 : decode cX5_duty 2 = .ok (.iconst 2, 1) := by decide +kernel
theorem dX5_duty_3 : decode cX5_duty 3 = .ok (.invokestatic 43, 3) := by decide +kernel
theorem dX5_duty_6 : decode cX5_duty 6 = .ok (.ifCond .eq 38, 3) := by decide +kernel
theorem dX5_duty_9 : decode cX5_duty 9 = .ok (.iload_n 2, 1) := by decide +kernel
theorem dX5_duty_10 : decode cX5_duty 10 = .ok (.iconst 1, 1) := by decide +kernel
theorem dX5_duty_11 : decode cX5_duty 11 = .ok (.bipush 100, 2) := by decide +kernel
theorem dX5_duty_13 : decode cX5_duty 13 = .ok (.invokestatic 43, 3) := by decide +kernel
theorem dX5_duty_16 : decode cX5_duty 16 = .ok (.ifCond .eq 28, 3) := by decide +kernel
theorem dX5_duty_19 : decode cX5_duty 19 = .ok (.iload_n 3, 1) := by decide +kernel
theorem dX5_duty_20 : decode cX5_duty 20 = .ok (.iconst 1, 1) := by decide +kernel
theorem dX5_duty_21 : decode cX5_duty 21 = .ok (.bipush 20, 2) := by decide +kernel
theorem dX5_duty_23 : decode cX5_duty 23 = .ok (.invokestatic 43, 3) := by decide +kernel
theorem dX5_duty_26 : decode cX5_duty 26 = .ok (.ifCond .eq 18, 3) := by decide +kernel
theorem dX5_duty_29 : decode cX5_duty 29 = .ok (.iload 6, 2) := by decide +kernel
theorem dX5_duty_31 : decode cX5_duty 31 = .ok (.iconst 0, 1) := by decide +kernel
theorem dX5_duty_32 : decode cX5_duty 32 = .ok (.bipush 100, 2) := by decide +kernel
theorem dX5_duty_34 : decode cX5_duty 34 = .ok (.invokestatic 43, 3) := by decide +kernel
theorem dX5_duty_37 : decode cX5_duty 37 = .ok (.ifCond .eq 7, 3) := by decide +kernel
theorem dX5_duty_40 : decode cX5_duty 40 = .ok (.iconst 1, 1) := by decide +kernel
theorem dX5_duty_41 : decode cX5_duty 41 = .ok (.goto 4, 3) := by decide +kernel
theorem dX5_duty_44 : decode cX5_duty 44 = .ok (.iconst 0, 1) := by decide +kernel
theorem dX5_duty_45 : decode cX5_duty 45 = .ok (.istore 7, 2) := by decide +kernel
theorem dX5_duty_47 : decode cX5_duty 47 = .ok (.iload_n 1, 1) := by decide +kernel
theorem dX5_duty_48 : decode cX5_duty 48 = .ok (.ifCond .eq 14, 3) := by decide +kernel
theorem dX5_duty_51 : decode cX5_duty 51 = .ok (.iload 4, 2) := by decide +kernel
theorem dX5_duty_53 : decode cX5_duty 53 = .ok (.iconst 0, 1) := by decide +kernel
theorem dX5_duty_54 : decode cX5_duty 54 = .ok (.bipush 100, 2) := by decide +kernel
theorem dX5_duty_56 : decode cX5_duty 56 = .ok (.invokestatic 43, 3) := by decide +kernel
theorem dX5_duty_59 : decode cX5_duty 59 = .ok (.ifCond .eq 7, 3) := by decide +kernel
theorem dX5_duty_62 : decode cX5_duty 62 = .ok (.iconst 1, 1) := by decide +kernel
theorem dX5_duty_63 : decode cX5_duty 63 = .ok (.goto 4, 3) := by decide +kernel
theorem dX5_duty_66 : decode cX5_duty 66 = .ok (.iconst 0, 1) := by decide +kernel
theorem dX5_duty_67 : decode cX5_duty 67 = .ok (.istore 8, 2) := by decide +kernel
theorem dX5_duty_69 : decode cX5_duty 69 = .ok (.iload_n 1, 1) := by decide +kernel
theorem dX5_duty_70 : decode cX5_duty 70 = .ok (.iconst 2, 1) := by decide +kernel
theorem dX5_duty_71 : decode cX5_duty 71 = .ok (.if_icmp .ne 11, 3) := by decide +kernel
theorem dX5_duty_74 : decode cX5_duty 74 = .ok (.iload 5, 2) := by decide +kernel
theorem dX5_duty_76 : decode cX5_duty 76 = .ok (.invokestatic 75, 3) := by decide +kernel
theorem dX5_duty_79 : decode cX5_duty 79 = .ok (.ifCond .eq 7, 3) := by decide +kernel
theorem dX5_duty_82 : decode cX5_duty 82 = .ok (.iconst 1, 1) := by decide +kernel
theorem dX5_duty_83 : decode cX5_duty 83 = .ok (.goto 4, 3) := by decide +kernel
theorem dX5_duty_86 : decode cX5_duty 86 = .ok (.iconst 0, 1) := by decide +kernel
theorem dX5_duty_87 : decode cX5_duty 87 = .ok (.istore 9, 2) := by decide +kernel
theorem dX5_duty_89 : decode cX5_duty 89 = .ok (.iload 7, 2) := by decide +kernel
theorem dX5_duty_91 : decode cX5_duty 91 = .ok (.ifCond .eq 13, 3) := by decide +kernel
theorem dX5_duty_94 : decode cX5_duty 94 = .ok (.iload 8, 2) := by decide +kernel
theorem dX5_duty_96 : decode cX5_duty 96 = .ok (.ifCond .eq 8, 3) := by decide +kernel
theorem dX5_duty_99 : decode cX5_duty 99 = .ok (.iload 9, 2) := by decide +kernel
theorem dX5_duty_101 : decode cX5_duty 101 = .ok (.ifCond .ne 5, 3) := by decide +kernel
theorem dX5_duty_104 : decode cX5_duty 104 = .ok (.iconst (-1), 1) := by decide +kernel
theorem dX5_duty_105 : decode cX5_duty 105 = .ok (.ireturn, 1) := by decide +kernel
theorem dX5_duty_106 : decode cX5_duty 106 = .ok (.aload_n 0, 1) := by decide +kernel
theorem dX5_duty_107 : decode cX5_duty 107 = .ok (.getfield 19, 3) := by decide +kernel
theorem dX5_duty_110 : decode cX5_duty 110 = .ok (.invokevirtual 78, 3) := by decide +kernel
theorem dX5_duty_113 : decode cX5_duty 113 = .ok (.ifCond .eq 6, 3) := by decide +kernel
theorem dX5_duty_116 : decode cX5_duty 116 = .ok (.bipush (-3), 2) := by decide +kernel
theorem dX5_duty_118 : decode cX5_duty 118 = .ok (.ireturn, 1) := by decide +kernel
theorem dX5_duty_119 : decode cX5_duty 119 = .ok (.aload_n 0, 1) := by decide +kernel
theorem dX5_duty_120 : decode cX5_duty 120 = .ok (.getfield 19, 3) := by decide +kernel
theorem dX5_duty_123 : decode cX5_duty 123 = .ok (.new 82, 3) := by decide +kernel
theorem dX5_duty_126 : decode cX5_duty 126 = .ok (.dup, 1) := by decide +kernel
theorem dX5_duty_127 : decode cX5_duty 127 = .ok (.iload_n 1, 1) := by decide +kernel
theorem dX5_duty_128 : decode cX5_duty 128 = .ok (.iload_n 2, 1) := by decide +kernel
theorem dX5_duty_129 : decode cX5_duty 129 = .ok (.iload_n 3, 1) := by decide +kernel
theorem dX5_duty_130 : decode cX5_duty 130 = .ok (.iload 4, 2) := by decide +kernel
theorem dX5_duty_132 : decode cX5_duty 132 = .ok (.iload 5, 2) := by decide +kernel
theorem dX5_duty_134 : decode cX5_duty 134 = .ok (.iload 6, 2) := by decide +kernel
theorem dX5_duty_136 : decode cX5_duty 136 = .ok (.invokespecial 84, 3) := by decide +kernel
theorem dX5_duty_139 : decode cX5_duty 139 = .ok (.invokevirtual 87, 3) := by decide +kernel
theorem dX5_duty_142 : decode cX5_duty 142 = .ok (.ireturn, 1) := by decide +kernel
set_option maxRecDepth 20000 in
theorem ggX5_on_X2_numbered : GoodIn wsX5_on wsX2_numbered := goodIn_r _ [6, 7, 8, 21, 22] (by decide +kernel) (by decide +kernel)
set_option maxRecDepth 20000 in
theorem gX5_on_X2_numbered : GoodIn wsX5_on (wsV RX5 91 RX2 yX2_numbered wsX2_numbered) := goodIn_app (goodIn_of _ (by decide +kernel)) ggX5_on_X2_numbered
theorem dX5_on_0 : decode cX5_on 0 = .ok (.aload_n 0, 1) := by decide +kernel
theorem dX5_on_1 : decode cX5_on 1 = .ok (.getfield 19, 3) := by decide +kernel
theorem dX5_on_4 : decode cX5_on 4 = .ok (.iload_n 1, 1) := by decide +kernel
theorem dX5_on_5 : decode cX5_on 5 = .ok (.invokevirtual 91, 3) := by decide +kernel
theorem dX5_on_8 : decode cX5_on 8 = .ok (.astore_n 3, 1) := by decide +kernel
theorem dX5_on_9 : decode cX5_on 9 = .ok (.aload_n 3, 1) := by decide +kernel
theorem dX5_on_10 : decode cX5_on 10 = .ok (.ifnonnull 5, 3) := by decide +kernel
theorem dX5_on_13 : decode cX5_on 13 = .ok (.iconst (-1), 1) := by decide +kernel
theorem dX5_on_14 : decode cX5_on 14 = .ok (.ireturn, 1) := by decide +kernel
theorem dX5_on_15 : decode cX5_on 15 = .ok (.aload_n 3, 1) := by decide +kernel
theorem dX5_on_16 : decode cX5_on 16 = .ok (.getfield 95, 3) := by decide +kernel
theorem dX5_on_19 : decode cX5_on 19 = .ok (.ifCond .eq 7, 3) := by decide +kernel
theorem dX5_on_22 : decode cX5_on 22 = .ok (.iconst 1, 1) := by decide +kernel
theorem dX5_on_23 : decode cX5_on 23 = .ok (.goto 4, 3) := by decide +kernel
theorem dX5_on_26 : decode cX5_on 26 = .ok (.iconst 0, 1) := by decide +kernel
theorem dX5_on_27 : decode cX5_on 27 = .ok (.istore 4, 2) := by decide +kernel
theorem dX5_on_29 : decode cX5_on 29 = .ok (.aload_n 3, 1) := by decide +kernel
theorem dX5_on_30 : decode cX5_on 30 = .ok (.iload_n 2, 1) := by decide +kernel
theorem dX5_on_31 : decode cX5_on 31 = .ok (.putfield 95, 3) := by decide +kernel
theorem dX5_on_34 : decode cX5_on 34 = .ok (.iload 4, 2) := by decide +kernel
theorem dX5_on_36 : decode cX5_on 36 = .ok (.ireturn, 1) := by decide +kernel
set_option maxRecDepth 20000 in
theorem ggX5_drop_X2_removeLatest : GoodIn wsX5_drop wsX2_removeLatest := goodIn_r _ [6, 7, 8, 14, 15] (by decide +kernel) (by decide +kernel)
set_option maxRecDepth 20000 in
theorem gX5_drop_X2_removeLatest : GoodIn wsX5_drop (wsV RX5 103 RX2 yX2_removeLatest wsX2_removeLatest) := goodIn_app (goodIn_of _ (by decide +kernel)) ggX5_drop_X2_removeLatest
theorem dX5_drop_0 : decode cX5_drop 0 = .ok (.aload_n 0, 1) := by decide +kernel
theorem dX5_drop_1 : decode cX5_drop 1 = .ok (.getfield 19, 3) := by decide +kernel
theorem dX5_drop_4 : decode cX5_drop 4 = .ok (.getfield 99, 3) := by decide +kernel
theorem dX5_drop_7 : decode cX5_drop 7 = .ok (.ifCond .ne 8, 3) := by decide +kernel
theorem dX5_drop_10 : decode cX5_drop 10 = .ok (.bipush (-2), 2) := by decide +kernel
theorem dX5_drop_12 : decode cX5_drop 12 = .ok (.goto 10, 3) := by decide +kernel
theorem dX5_drop_15 : decode cX5_drop 15 = .ok (.aload_n 0, 1) := by decide +kernel
theorem dX5_drop_16 : decode cX5_drop 16 = .ok (.getfield 19, 3) := by decide +kernel
theorem dX5_drop_19 : decode cX5_drop 19 = .ok (.invokevirtual 103, 3) := by decide +kernel
theorem dX5_drop_22 : decode cX5_drop 22 = .ok (.ireturn, 1) := by decide +kernel
set_option maxRecDepth 20000 in
theorem ggX5_drain_X2_numbered : GoodIn wsX5_drain wsX2_numbered := goodIn_r _ [8, 9, 10, 57, 58] (by decide +kernel) (by decide +kernel)
set_option maxRecDepth 20000 in
theorem gX5_drain_X2_numbered : GoodIn wsX5_drain (wsV RX5 91 RX2 yX2_numbered wsX2_numbered) := goodIn_app (goodIn_of _ (by decide +kernel)) ggX5_drain_X2_numbered
set_option maxRecDepth 20000 in
theorem ggX5_drain_X5_isTries : GoodIn wsX5_drain wsX5_isTries := goodIn_r _ [14, 15, 16, 13, 17] (by decide +kernel) (by decide +kernel)
set_option maxRecDepth 20000 in
theorem gX5_drain_X5_isTries : GoodIn wsX5_drain (va_wsS RX5 75 yX5_isTries wsX5_isTries) := goodIn_app (goodIn_of _ (by decide +kernel)) ggX5_drain_X5_isTries
set_option maxRecDepth 20000 in
theorem ggX5_drain_X3_traceOfOneAsk : GoodIn wsX5_drain wsX3_traceOfOneAsk := goodIn_r _ [22, 23, 44, 45, 46, 47, 48, 49, 50] (by decide +kernel) (by decide +kernel)
set_option maxRecDepth 20000 in
theorem gX5_drain_X3_traceOfOneAsk : GoodIn wsX5_drain (wsV RX5 110 RX3 yX3_traceOfOneAsk wsX3_traceOfOneAsk) := goodIn_app (goodIn_of _ (by decide +kernel)) ggX5_drain_X3_traceOfOneAsk
set_option maxRecDepth 20000 in
theorem ggX5_drain_X3_drainBy : GoodIn wsX5_drain wsX3_drainBy := goodIn_r _ [27, 28, 29, 23, 30, 31, 32, 33, 34, 35, 36, 37, 38, 44, 45, 46, 47, 48, 49, 50] (by decide +kernel) (by decide +kernel)
set_option maxRecDepth 20000 in
theorem gX5_drain_X3_drainBy : GoodIn wsX5_drain (wsV RX5 116 RX3 yX3_drainBy wsX3_drainBy) := goodIn_app (goodIn_of _ (by decide +kernel)) ggX5_drain_X3_drainBy
theorem dX5_drain_0 : decode cX5_drain 0 = .ok (.aload_n 0, 1) := by decide +kernel
theorem dX5_drain_1 : decode cX5_drain 1 = .ok (.getfield 19, 3) := by decide +kernel
theorem dX5_drain_4 : decode cX5_drain 4 = .ok (.iload_n 1, 1) := by decide +kernel
theorem dX5_drain_5 : decode cX5_drain 5 = .ok (.invokevirtual 91, 3) := by decide +kernel
theorem dX5_drain_8 : decode cX5_drain 8 = .ok (.astore_n 3, 1) := by decide +kernel
theorem dX5_drain_9 : decode cX5_drain 9 = .ok (.aload_n 3, 1) := by decide +kernel
theorem dX5_drain_10 : decode cX5_drain 10 = .ok (.ifnull 18, 3) := by decide +kernel
theorem dX5_drain_13 : decode cX5_drain 13 = .ok (.iload_n 2, 1) := by decide +kernel
theorem dX5_drain_14 : decode cX5_drain 14 = .ok (.invokestatic 75, 3) := by decide +kernel
theorem dX5_drain_17 : decode cX5_drain 17 = .ok (.ifCond .eq 11, 3) := by decide +kernel
theorem dX5_drain_20 : decode cX5_drain 20 = .ok (.iload_n 2, 1) := by decide +kernel
theorem dX5_drain_21 : decode cX5_drain 21 = .ok (.aload_n 3, 1) := by decide +kernel
theorem dX5_drain_22 : decode cX5_drain 22 = .ok (.getfield 107, 3) := by decide +kernel
theorem dX5_drain_25 : decode cX5_drain 25 = .ok (.if_icmp .le 5, 3) := by decide +kernel
theorem dX5_drain_28 : decode cX5_drain 28 = .ok (.iconst (-1), 1) := by decide +kernel
theorem dX5_drain_29 : decode cX5_drain 29 = .ok (.ireturn, 1) := by decide +kernel
theorem dX5_drain_30 : decode cX5_drain 30 = .ok (.aload_n 0, 1) := by decide +kernel
theorem dX5_drain_31 : decode cX5_drain 31 = .ok (.dup, 1) := by decide +kernel
theorem dX5_drain_32 : decode cX5_drain 32 = .ok (.getfield 39, 3) := by decide +kernel
theorem dX5_drain_35 : decode cX5_drain 35 = .ok (.aload_n 3, 1) := by decide +kernel
theorem dX5_drain_36 : decode cX5_drain 36 = .ok (.invokevirtual 110, 3) := by decide +kernel
theorem dX5_drain_39 : decode cX5_drain 39 = .ok (.i2l, 1) := by decide +kernel
theorem dX5_drain_40 : decode cX5_drain 40 = .ok (.ladd, 1) := by decide +kernel
theorem dX5_drain_41 : decode cX5_drain 41 = .ok (.putfield 39, 3) := by decide +kernel
theorem dX5_drain_44 : decode cX5_drain 44 = .ok (.aload_n 3, 1) := by decide +kernel
theorem dX5_drain_45 : decode cX5_drain 45 = .ok (.iload_n 2, 1) := by decide +kernel
theorem dX5_drain_46 : decode cX5_drain 46 = .ok (.aload_n 0, 1) := by decide +kernel
theorem dX5_drain_47 : decode cX5_drain 47 = .ok (.getfield 10, 3) := by decide +kernel
theorem dX5_drain_50 : decode cX5_drain 50 = .ok (.getfield 113, 3) := by decide +kernel
theorem dX5_drain_53 : decode cX5_drain 53 = .ok (.invokevirtual 116, 3) := by decide +kernel
theorem dX5_drain_56 : decode cX5_drain 56 = .ok (.ireturn, 1) := by decide +kernel
set_option maxRecDepth 20000 in
theorem ggX5_life_X5_isTries : GoodIn wsX5_life wsX5_isTries := goodIn_r _ [6, 7, 8, 5, 9] (by decide +kernel) (by decide +kernel)
set_option maxRecDepth 20000 in
theorem gX5_life_X5_isTries : GoodIn wsX5_life (va_wsS RX5 75 yX5_isTries wsX5_isTries) := goodIn_app (goodIn_of _ (by decide +kernel)) ggX5_life_X5_isTries
set_option maxRecDepth 20000 in
theorem ggX5_life_X2_setOfOn : GoodIn wsX5_life wsX2_setOfOn := goodIn_r _ [14, 15, 16, 17, 18, 13, 19, 20, 81, 82, 83, 84, 85, 86, 87, 88, 89] (by decide +kernel) (by decide +kernel)
set_option maxRecDepth 20000 in
theorem gX5_life_X2_setOfOn : GoodIn wsX5_life (wsV RX5 120 RX2 yX2_setOfOn wsX2_setOfOn) := goodIn_app (goodIn_of _ (by decide +kernel)) ggX5_life_X2_setOfOn
set_option maxRecDepth 20000 in
theorem ggX5_life_X2_loadOf : GoodIn wsX5_life wsX2_loadOf := goodIn_r _ [24, 15, 25, 26, 27, 13, 28, 16, 17, 18, 19, 20, 29, 30, 31, 32, 33, 34, 35, 36, 37, 38, 39, 40, 41, 42, 43, 44, 45, 81, 82, 83, 84, 85, 86, 87, 88, 89] (by decide +kernel) (by decide +kernel)
set_option maxRecDepth 20000 in
theorem gX5_life_X2_loadOf : GoodIn wsX5_life (wsV RX5 123 RX2 yX2_loadOf wsX2_loadOf) := goodIn_app (goodIn_of _ (by decide +kernel)) ggX5_life_X2_loadOf
set_option maxRecDepth 20000 in
theorem ggX5_life_X1_daysLasted : GoodIn wsX5_life wsX1_daysLasted := goodIn_r _ [50, 51, 52, 53, 54, 49, 55, 56, 57, 58, 59, 60, 61, 62, 63, 64, 5, 65, 66, 67, 68, 69, 75, 76, 77, 78, 79, 80] (by decide +kernel) (by decide +kernel)
set_option maxRecDepth 20000 in
theorem gX5_life_X1_daysLasted : GoodIn wsX5_life (wsV RX5 127 RX1 yX1_daysLasted wsX1_daysLasted) := goodIn_app (goodIn_of _ (by decide +kernel)) ggX5_life_X1_daysLasted
theorem dX5_life_0 : decode cX5_life 0 = .ok (.iload_n 1, 1) := by decide +kernel
theorem dX5_life_1 : decode cX5_life 1 = .ok (.invokestatic 75, 3) := by decide +kernel
theorem dX5_life_4 : decode cX5_life 4 = .ok (.ifCond .eq 35, 3) := by decide +kernel
theorem dX5_life_7 : decode cX5_life 7 = .ok (.aload_n 0, 1) := by decide +kernel
theorem dX5_life_8 : decode cX5_life 8 = .ok (.getfield 10, 3) := by decide +kernel
theorem dX5_life_11 : decode cX5_life 11 = .ok (.aload_n 0, 1) := by decide +kernel
theorem dX5_life_12 : decode cX5_life 12 = .ok (.getfield 19, 3) := by decide +kernel
theorem dX5_life_15 : decode cX5_life 15 = .ok (.aload_n 0, 1) := by decide +kernel
theorem dX5_life_16 : decode cX5_life 16 = .ok (.getfield 19, 3) := by decide +kernel
theorem dX5_life_19 : decode cX5_life 19 = .ok (.invokevirtual 120, 3) := by decide +kernel
theorem dX5_life_22 : decode cX5_life 22 = .ok (.iload_n 1, 1) := by decide +kernel
theorem dX5_life_23 : decode cX5_life 23 = .ok (.aload_n 0, 1) := by decide +kernel
theorem dX5_life_24 : decode cX5_life 24 = .ok (.getfield 10, 3) := by decide +kernel
theorem dX5_life_27 : decode cX5_life 27 = .ok (.getfield 113, 3) := by decide +kernel
theorem dX5_life_30 : decode cX5_life 30 = .ok (.invokevirtual 123, 3) := by decide +kernel
theorem dX5_life_33 : decode cX5_life 33 = .ok (.invokevirtual 127, 3) := by decide +kernel
theorem dX5_life_36 : decode cX5_life 36 = .ok (.goto 4, 3) := by decide +kernel
theorem dX5_life_39 : decode cX5_life 39 = .ok (.iconst (-1), 1) := by decide +kernel
theorem dX5_life_40 : decode cX5_life 40 = .ok (.ireturn, 1) := by decide +kernel
set_option maxRecDepth 20000 in
theorem ggX5_charge_X5_isDay : GoodIn wsX5_charge wsX5_isDay := goodIn_r _ [10, 11, 12, 9, 13] (by decide +kernel) (by decide +kernel)
set_option maxRecDepth 20000 in
theorem gX5_charge_X5_isDay : GoodIn wsX5_charge (va_wsS RX5 68 yX5_isDay wsX5_isDay) := goodIn_app (goodIn_of _ (by decide +kernel)) ggX5_charge_X5_isDay
set_option maxRecDepth 20000 in
theorem ggX5_charge_X5_isTries : GoodIn wsX5_charge wsX5_isTries := goodIn_r _ [16, 11, 12, 9, 13] (by decide +kernel) (by decide +kernel)
set_option maxRecDepth 20000 in
theorem gX5_charge_X5_isTries : GoodIn wsX5_charge (va_wsS RX5 75 yX5_isTries wsX5_isTries) := goodIn_app (goodIn_of _ (by decide +kernel)) ggX5_charge_X5_isTries
set_option maxRecDepth 20000 in
theorem ggX5_charge_X2_setOfOn : GoodIn wsX5_charge wsX2_setOfOn := goodIn_r _ [21, 22, 23, 24, 25, 20, 26, 27, 88, 89, 90, 91, 92, 93, 94, 95, 96] (by decide +kernel) (by decide +kernel)
set_option maxRecDepth 20000 in
theorem gX5_charge_X2_setOfOn : GoodIn wsX5_charge (wsV RX5 120 RX2 yX2_setOfOn wsX2_setOfOn) := goodIn_app (goodIn_of _ (by decide +kernel)) ggX5_charge_X2_setOfOn
set_option maxRecDepth 20000 in
theorem ggX5_charge_X2_loadOf : GoodIn wsX5_charge wsX2_loadOf := goodIn_r _ [31, 22, 32, 33, 34, 20, 35, 23, 24, 25, 26, 27, 36, 37, 38, 39, 40, 41, 42, 43, 44, 45, 4, 5, 6, 46, 47, 48, 49, 88, 89, 90, 91, 92, 93, 94, 95, 96] (by decide +kernel) (by decide +kernel)
set_option maxRecDepth 20000 in
theorem gX5_charge_X2_loadOf : GoodIn wsX5_charge (wsV RX5 123 RX2 yX2_loadOf wsX2_loadOf) := goodIn_app (goodIn_of _ (by decide +kernel)) ggX5_charge_X2_loadOf
set_option maxRecDepth 20000 in
theorem ggX5_charge_X1_chargeAhead : GoodIn wsX5_charge wsX1_chargeAhead := goodIn_r _ [54, 55, 56, 57, 53, 58, 59, 60, 61, 62, 63, 64, 65, 66, 67, 68, 69, 70, 71, 9, 72, 73, 74, 75, 76, 82, 83, 84, 85, 86, 87] (by decide +kernel) (by decide +kernel)
set_option maxRecDepth 20000 in
theorem gX5_charge_X1_chargeAhead : GoodIn wsX5_charge (wsV RX5 133 RX1 yX1_chargeAhead wsX1_chargeAhead) := goodIn_app (goodIn_of _ (by decide +kernel)) ggX5_charge_X1_chargeAhead
theorem dX5_charge_0 : decode cX5_charge 0 = .ok (.iload_n 1, 1) := by decide +kernel
theorem dX5_charge_1 : decode cX5_charge 1 = .ok (.invokestatic 68, 3) := by decide +kernel
theorem dX5_charge_4 : decode cX5_charge 4 = .ok (.ifCond .eq 10, 3) := by decide +kernel
theorem dX5_charge_7 : decode cX5_charge 7 = .ok (.iload_n 2, 1) := by decide +kernel
theorem dX5_charge_8 : decode cX5_charge 8 = .ok (.invokestatic 75, 3) := by decide +kernel
theorem dX5_charge_11 : decode cX5_charge 11 = .ok (.ifCond .ne 5, 3) := by decide +kernel
theorem dX5_charge_14 : decode cX5_charge 14 = .ok (.iconst (-1), 1) := by decide +kernel
theorem dX5_charge_15 : decode cX5_charge 15 = .ok (.ireturn, 1) := by decide +kernel
theorem dX5_charge_16 : decode cX5_charge 16 = .ok (.aload_n 0, 1) := by decide +kernel
theorem dX5_charge_17 : decode cX5_charge 17 = .ok (.getfield 19, 3) := by decide +kernel
theorem dX5_charge_20 : decode cX5_charge 20 = .ok (.aload_n 0, 1) := by decide +kernel
theorem dX5_charge_21 : decode cX5_charge 21 = .ok (.getfield 19, 3) := by decide +kernel
theorem dX5_charge_24 : decode cX5_charge 24 = .ok (.invokevirtual 120, 3) := by decide +kernel
theorem dX5_charge_27 : decode cX5_charge 27 = .ok (.iload_n 2, 1) := by decide +kernel
theorem dX5_charge_28 : decode cX5_charge 28 = .ok (.aload_n 0, 1) := by decide +kernel
theorem dX5_charge_29 : decode cX5_charge 29 = .ok (.getfield 10, 3) := by decide +kernel
theorem dX5_charge_32 : decode cX5_charge 32 = .ok (.getfield 113, 3) := by decide +kernel
theorem dX5_charge_35 : decode cX5_charge 35 = .ok (.invokevirtual 123, 3) := by decide +kernel
theorem dX5_charge_38 : decode cX5_charge 38 = .ok (.istore_n 3, 1) := by decide +kernel
theorem dX5_charge_39 : decode cX5_charge 39 = .ok (.iconst 0, 1) := by decide +kernel
theorem dX5_charge_40 : decode cX5_charge 40 = .ok (.aload_n 0, 1) := by decide +kernel
theorem dX5_charge_41 : decode cX5_charge 41 = .ok (.getfield 10, 3) := by decide +kernel
theorem dX5_charge_44 : decode cX5_charge 44 = .ok (.iload_n 1, 1) := by decide +kernel
theorem dX5_charge_45 : decode cX5_charge 45 = .ok (.iconst 1, 1) := by decide +kernel
theorem dX5_charge_46 : decode cX5_charge 46 = .ok (.iadd, 1) := by decide +kernel
theorem dX5_charge_47 : decode cX5_charge 47 = .ok (.aload_n 0, 1) := by decide +kernel
theorem dX5_charge_48 : decode cX5_charge 48 = .ok (.getfield 10, 3) := by decide +kernel
theorem dX5_charge_51 : decode cX5_charge 51 = .ok (.getfield 130, 3) := by decide +kernel
theorem dX5_charge_54 : decode cX5_charge 54 = .ok (.iload_n 3, 1) := by decide +kernel
theorem dX5_charge_55 : decode cX5_charge 55 = .ok (.invokevirtual 133, 3) := by decide +kernel
theorem dX5_charge_58 : decode cX5_charge 58 = .ok (.invokestatic 136, 3) := by decide +kernel
theorem dX5_charge_61 : decode cX5_charge 61 = .ok (.ireturn, 1) := by decide +kernel
set_option maxRecDepth 20000 in
theorem ggX5_price_X2_numbered : GoodIn wsX5_price wsX2_numbered := goodIn_r _ [6, 7, 8, 74, 75] (by decide +kernel) (by decide +kernel)
set_option maxRecDepth 20000 in
theorem gX5_price_X2_numbered : GoodIn wsX5_price (wsV RX5 91 RX2 yX2_numbered wsX2_numbered) := goodIn_app (goodIn_of _ (by decide +kernel)) ggX5_price_X2_numbered
set_option maxRecDepth 20000 in
theorem ggX5_price_X2_setOfOn : GoodIn wsX5_price wsX2_setOfOn := goodIn_r _ [12, 7, 13, 3, 4, 5, 6, 8, 74, 75, 76, 77, 78, 79, 80, 81, 82] (by decide +kernel) (by decide +kernel)
set_option maxRecDepth 20000 in
theorem gX5_price_X2_setOfOn : GoodIn wsX5_price (wsV RX5 120 RX2 yX2_setOfOn wsX2_setOfOn) := goodIn_app (goodIn_of _ (by decide +kernel)) ggX5_price_X2_setOfOn
set_option maxRecDepth 20000 in
theorem ggX5_price_X5_sureBy : GoodIn wsX5_price wsX5_sureBy := goodIn_r _ [18, 19, 1, 20, 21, 22, 5, 23, 7, 24, 25, 26, 27, 13, 3, 4, 6, 8, 28, 29, 30, 31, 32, 33, 34, 35, 36, 37, 38, 39, 40, 41, 42, 43, 44, 45, 46, 47, 48, 49, 50, 51, 52, 53, 54, 55, 56, 57, 58, 59, 60, 61, 62, 63, 17, 64, 65, 66, 67, 68, 69, 70, 71, 72, 73, 83, 84, 85, 86, 87, 88, 74, 75, 76, 77, 78, 79, 80, 81, 82] (by decide +kernel) (by decide +kernel)
set_option maxRecDepth 20000 in
theorem gX5_price_X5_sureBy : GoodIn wsX5_price (wsV RX5 141 RX5 yX5_sureBy wsX5_sureBy) := goodIn_app (goodIn_of _ (by decide +kernel)) ggX5_price_X5_sureBy
theorem dX5_price_0 : decode cX5_price 0 = .ok (.aload_n 0, 1) := by decide +kernel
theorem dX5_price_1 : decode cX5_price 1 = .ok (.getfield 19, 3) := by decide +kernel
theorem dX5_price_4 : decode cX5_price 4 = .ok (.iload_n 1, 1) := by decide +kernel
theorem dX5_price_5 : decode cX5_price 5 = .ok (.invokevirtual 91, 3) := by decide +kernel
theorem dX5_price_8 : decode cX5_price 8 = .ok (.ifnonnull 5, 3) := by decide +kernel
theorem dX5_price_11 : decode cX5_price 11 = .ok (.iconst (-1), 1) := by decide +kernel
theorem dX5_price_12 : decode cX5_price 12 = .ok (.ireturn, 1) := by decide +kernel
theorem dX5_price_13 : decode cX5_price 13 = .ok (.iconst 1, 1) := by decide +kernel
theorem dX5_price_14 : decode cX5_price 14 = .ok (.iload_n 1, 1) := by decide +kernel
theorem dX5_price_15 : decode cX5_price 15 = .ok (.ishl, 1) := by decide +kernel
theorem dX5_price_16 : decode cX5_price 16 = .ok (.istore_n 2, 1) := by decide +kernel
theorem dX5_price_17 : decode cX5_price 17 = .ok (.aload_n 0, 1) := by decide +kernel
theorem dX5_price_18 : decode cX5_price 18 = .ok (.getfield 19, 3) := by decide +kernel
theorem dX5_price_21 : decode cX5_price 21 = .ok (.invokevirtual 120, 3) := by decide +kernel
theorem dX5_price_24 : decode cX5_price 24 = .ok (.istore_n 3, 1) := by decide +kernel
theorem dX5_price_25 : decode cX5_price 25 = .ok (.aload_n 0, 1) := by decide +kernel
theorem dX5_price_26 : decode cX5_price 26 = .ok (.iload_n 3, 1) := by decide +kernel
theorem dX5_price_27 : decode cX5_price 27 = .ok (.iload_n 2, 1) := by decide +kernel
theorem dX5_price_28 : decode cX5_price 28 = .ok (.iconst (-1), 1) := by decide +kernel
theorem dX5_price_29 : decode cX5_price 29 = .ok (.ixor, 1) := by decide +kernel
theorem dX5_price_30 : decode cX5_price 30 = .ok (.iand, 1) := by decide +kernel
theorem dX5_price_31 : decode cX5_price 31 = .ok (.invokevirtual 141, 3) := by decide +kernel
theorem dX5_price_34 : decode cX5_price 34 = .ok (.aload_n 0, 1) := by decide +kernel
theorem dX5_price_35 : decode cX5_price 35 = .ok (.iload_n 3, 1) := by decide +kernel
theorem dX5_price_36 : decode cX5_price 36 = .ok (.iload_n 2, 1) := by decide +kernel
theorem dX5_price_37 : decode cX5_price 37 = .ok (.ior, 1) := by decide +kernel
theorem dX5_price_38 : decode cX5_price 38 = .ok (.invokevirtual 141, 3) := by decide +kernel
theorem dX5_price_41 : decode cX5_price 41 = .ok (.isub, 1) := by decide +kernel
theorem dX5_price_42 : decode cX5_price 42 = .ok (.ireturn, 1) := by decide +kernel
set_option maxRecDepth 20000 in
theorem ggX5_plan_X5_within : GoodIn wsX5_plan wsX5_within := goodIn_r _ [5] (by decide +kernel) (by decide +kernel)
set_option maxRecDepth 20000 in
theorem gX5_plan_X5_within : GoodIn wsX5_plan (va_wsS RX5 43 yX5_within wsX5_within) := goodIn_app (goodIn_of _ (by decide +kernel)) ggX5_plan_X5_within
set_option maxRecDepth 20000 in
theorem ggX5_plan_X5_worthiestSet : GoodIn wsX5_plan wsX5_worthiestSet := goodIn_r _ [9, 1, 10, 11, 12, 13, 14, 15, 16, 17, 18, 19, 20, 21, 22, 23, 24, 25, 26, 27, 4, 28, 29, 30, 31, 32, 33, 34, 35, 36, 37, 38, 39, 40, 41, 42, 43, 44, 45, 46, 47, 48, 49, 50, 51, 52, 53, 54, 55, 56, 57, 58, 59, 60, 61, 62, 63, 64, 65, 66, 67, 68, 69, 70, 71, 72, 73, 74, 75, 76, 77, 78, 79, 80, 81, 82, 83, 84, 85, 86, 87, 88, 89, 90, 91, 92, 93, 94] (by decide +kernel) (by decide +kernel)
set_option maxRecDepth 20000 in
theorem gX5_plan_X5_worthiestSet : GoodIn wsX5_plan (wsV RX5 144 RX5 yX5_worthiestSet wsX5_worthiestSet) := goodIn_app (goodIn_of _ (by decide +kernel)) ggX5_plan_X5_worthiestSet
set_option maxRecDepth 20000 in
theorem ggX5_plan_X2_worthOf : GoodIn wsX5_plan wsX2_worthOf := goodIn_r _ [14, 15, 16, 17, 18, 13, 19, 20, 21, 22, 23, 24, 80, 81, 82, 83, 84, 85, 86, 87, 88] (by decide +kernel) (by decide +kernel)
set_option maxRecDepth 20000 in
theorem gX5_plan_X2_worthOf : GoodIn wsX5_plan (wsV RX5 147 RX2 yX2_worthOf wsX2_worthOf) := goodIn_app (goodIn_of _ (by decide +kernel)) ggX5_plan_X2_worthOf
set_option maxRecDepth 20000 in
theorem ggX5_plan_X5_sureBy : GoodIn wsX5_plan wsX5_sureBy := goodIn_r _ [28, 29, 1, 30, 31, 32, 13, 33, 15, 16, 17, 18, 19, 20, 21, 22, 23, 24, 34, 35, 36, 37, 38, 39, 40, 41, 42, 43, 44, 45, 46, 47, 48, 49, 50, 51, 52, 53, 54, 55, 56, 57, 58, 59, 60, 61, 62, 63, 64, 65, 66, 67, 68, 69, 4, 70, 71, 72, 73, 74, 75, 76, 77, 78, 79, 89, 90, 91, 92, 93, 94, 80, 81, 82, 83, 84, 85, 86, 87, 88] (by decide +kernel) (by decide +kernel)
set_option maxRecDepth 20000 in
theorem gX5_plan_X5_sureBy : GoodIn wsX5_plan (wsV RX5 141 RX5 yX5_sureBy wsX5_sureBy) := goodIn_app (goodIn_of _ (by decide +kernel)) ggX5_plan_X5_sureBy
theorem dX5_plan_0 : decode cX5_plan 0 = .ok (.iload_n 1, 1) := by decide +kernel
theorem dX5_plan_1 : decode cX5_plan 1 = .ok (.iconst 1, 1) := by decide +kernel
theorem dX5_plan_2 : decode cX5_plan 2 = .ok (.sipush 400, 3) := by decide +kernel
theorem dX5_plan_5 : decode cX5_plan 5 = .ok (.invokestatic 43, 3) := by decide +kernel
theorem dX5_plan_8 : decode cX5_plan 8 = .ok (.ifCond .eq 12, 3) := by decide +kernel
theorem dX5_plan_11 : decode cX5_plan 11 = .ok (.iload_n 2, 1) := by decide +kernel
theorem dX5_plan_12 : decode cX5_plan 12 = .ok (.iconst 0, 1) := by decide +kernel
theorem dX5_plan_13 : decode cX5_plan 13 = .ok (.iconst 2, 1) := by decide +kernel
theorem dX5_plan_14 : decode cX5_plan 14 = .ok (.invokestatic 43, 3) := by decide +kernel
theorem dX5_plan_17 : decode cX5_plan 17 = .ok (.ifCond .ne 5, 3) := by decide +kernel
theorem dX5_plan_20 : decode cX5_plan 20 = .ok (.iconst (-1), 1) := by decide +kernel
theorem dX5_plan_21 : decode cX5_plan 21 = .ok (.ireturn, 1) := by decide +kernel
theorem dX5_plan_22 : decode cX5_plan 22 = .ok (.aload_n 0, 1) := by decide +kernel
theorem dX5_plan_23 : decode cX5_plan 23 = .ok (.iload_n 1, 1) := by decide +kernel
theorem dX5_plan_24 : decode cX5_plan 24 = .ok (.invokevirtual 144, 3) := by decide +kernel
theorem dX5_plan_27 : decode cX5_plan 27 = .ok (.istore_n 3, 1) := by decide +kernel
theorem dX5_plan_28 : decode cX5_plan 28 = .ok (.iload_n 3, 1) := by decide +kernel
theorem dX5_plan_29 : decode cX5_plan 29 = .ok (.bipush (-9), 2) := by decide +kernel
theorem dX5_plan_31 : decode cX5_plan 31 = .ok (.if_icmp .ne 6, 3) := by decide +kernel
theorem dX5_plan_34 : decode cX5_plan 34 = .ok (.bipush (-9), 2) := by decide +kernel
theorem dX5_plan_36 : decode cX5_plan 36 = .ok (.ireturn, 1) := by decide +kernel
theorem dX5_plan_37 : decode cX5_plan 37 = .ok (.iload_n 2, 1) := by decide +kernel
theorem dX5_plan_38 : decode cX5_plan 38 = .ok (.lookupswitch 37 #[(0, 26), (1, 28)], 26) := by decide +kernel
theorem dX5_plan_64 : decode cX5_plan 64 = .ok (.iload_n 3, 1) := by decide +kernel
theorem dX5_plan_65 : decode cX5_plan 65 = .ok (.ireturn, 1) := by decide +kernel
theorem dX5_plan_66 : decode cX5_plan 66 = .ok (.aload_n 0, 1) := by decide +kernel
theorem dX5_plan_67 : decode cX5_plan 67 = .ok (.getfield 19, 3) := by decide +kernel
theorem dX5_plan_70 : decode cX5_plan 70 = .ok (.iload_n 3, 1) := by decide +kernel
theorem dX5_plan_71 : decode cX5_plan 71 = .ok (.invokevirtual 147, 3) := by decide +kernel
theorem dX5_plan_74 : decode cX5_plan 74 = .ok (.ireturn, 1) := by decide +kernel
theorem dX5_plan_75 : decode cX5_plan 75 = .ok (.aload_n 0, 1) := by decide +kernel
theorem dX5_plan_76 : decode cX5_plan 76 = .ok (.iload_n 3, 1) := by decide +kernel
theorem dX5_plan_77 : decode cX5_plan 77 = .ok (.invokevirtual 141, 3) := by decide +kernel
theorem dX5_plan_80 : decode cX5_plan 80 = .ok (.ireturn, 1) := by decide +kernel
set_option maxRecDepth 20000 in
theorem ggX5_sign_X5_isDay : GoodIn wsX5_sign wsX5_isDay := goodIn_r _ [5, 6, 7, 4, 8] (by decide +kernel) (by decide +kernel)
set_option maxRecDepth 20000 in
theorem gX5_sign_X5_isDay : GoodIn wsX5_sign (va_wsS RX5 68 yX5_isDay wsX5_isDay) := goodIn_app (goodIn_of _ (by decide +kernel)) ggX5_sign_X5_isDay
set_option maxRecDepth 20000 in
theorem ggX5_sign_X5_within : GoodIn wsX5_sign wsX5_within := goodIn_r _ [8] (by decide +kernel) (by decide +kernel)
set_option maxRecDepth 20000 in
theorem gX5_sign_X5_within : GoodIn wsX5_sign (va_wsS RX5 43 yX5_within wsX5_within) := goodIn_app (goodIn_of _ (by decide +kernel)) ggX5_sign_X5_within
set_option maxRecDepth 20000 in
theorem ggX5_sign_X4_isFull : GoodIn wsX5_sign wsX4_isFull := goodIn_r _ [13, 14, 39, 40, 41, 42] (by decide +kernel) (by decide +kernel)
set_option maxRecDepth 20000 in
theorem gX5_sign_X4_isFull : GoodIn wsX5_sign (wsV RX5 150 RX4 yX4_isFull wsX4_isFull) := goodIn_app (goodIn_of _ (by decide +kernel)) ggX5_sign_X4_isFull
set_option maxRecDepth 20000 in
theorem ggX5_sign_X4_add : GoodIn wsX5_sign wsX4_add := goodIn_r _ [18, 19, 14, 20, 21, 4, 22, 23, 24, 25, 12, 26, 27, 28, 29, 30, 31, 32, 33, 39, 40, 41, 42] (by decide +kernel) (by decide +kernel)
set_option maxRecDepth 20000 in
theorem gX5_sign_X4_add : GoodIn wsX5_sign (wsV RX5 151 RX4 yX4_add wsX4_add) := goodIn_app (goodIn_of _ (by decide +kernel)) ggX5_sign_X4_add
theorem dX5_sign_0 : decode cX5_sign 0 = .ok (.iload_n 1, 1) := by decide +kernel
theorem dX5_sign_1 : decode cX5_sign 1 = .ok (.invokestatic 68, 3) := by decide +kernel
theorem dX5_sign_4 : decode cX5_sign 4 = .ok (.ifCond .eq 13, 3) := by decide +kernel
theorem dX5_sign_7 : decode cX5_sign 7 = .ok (.iload_n 2, 1) := by decide +kernel
theorem dX5_sign_8 : decode cX5_sign 8 = .ok (.iconst 0, 1) := by decide +kernel
theorem dX5_sign_9 : decode cX5_sign 9 = .ok (.bipush 9, 2) := by decide +kernel
theorem dX5_sign_11 : decode cX5_sign 11 = .ok (.invokestatic 43, 3) := by decide +kernel
theorem dX5_sign_14 : decode cX5_sign 14 = .ok (.ifCond .ne 5, 3) := by decide +kernel
theorem dX5_sign_17 : decode cX5_sign 17 = .ok (.iconst (-1), 1) := by decide +kernel
theorem dX5_sign_18 : decode cX5_sign 18 = .ok (.ireturn, 1) := by decide +kernel
theorem dX5_sign_19 : decode cX5_sign 19 = .ok (.aload_n 0, 1) := by decide +kernel
theorem dX5_sign_20 : decode cX5_sign 20 = .ok (.getfield 26, 3) := by decide +kernel
theorem dX5_sign_23 : decode cX5_sign 23 = .ok (.invokevirtual 150, 3) := by decide +kernel
theorem dX5_sign_26 : decode cX5_sign 26 = .ok (.ifCond .eq 8, 3) := by decide +kernel
theorem dX5_sign_29 : decode cX5_sign 29 = .ok (.bipush (-3), 2) := by decide +kernel
theorem dX5_sign_31 : decode cX5_sign 31 = .ok (.goto 12, 3) := by decide +kernel
theorem dX5_sign_34 : decode cX5_sign 34 = .ok (.aload_n 0, 1) := by decide +kernel
theorem dX5_sign_35 : decode cX5_sign 35 = .ok (.getfield 26, 3) := by decide +kernel
theorem dX5_sign_38 : decode cX5_sign 38 = .ok (.iload_n 1, 1) := by decide +kernel
theorem dX5_sign_39 : decode cX5_sign 39 = .ok (.iload_n 2, 1) := by decide +kernel
theorem dX5_sign_40 : decode cX5_sign 40 = .ok (.invokevirtual 151, 3) := by decide +kernel
theorem dX5_sign_43 : decode cX5_sign 43 = .ok (.ireturn, 1) := by decide +kernel
set_option maxRecDepth 20000 in
theorem ggX5_forget_X4_removeLatest : GoodIn wsX5_forget wsX4_removeLatest := goodIn_r _ [6, 7, 8, 9, 10, 5, 11, 12, 13, 14, 15, 16, 17, 18, 19, 20, 21, 22, 28, 29, 30, 31] (by decide +kernel) (by decide +kernel)
set_option maxRecDepth 20000 in
theorem gX5_forget_X4_removeLatest : GoodIn wsX5_forget (wsV RX5 154 RX4 yX4_removeLatest wsX4_removeLatest) := goodIn_app (goodIn_of _ (by decide +kernel)) ggX5_forget_X4_removeLatest
theorem dX5_forget_0 : decode cX5_forget 0 = .ok (.aload_n 0, 1) := by decide +kernel
theorem dX5_forget_1 : decode cX5_forget 1 = .ok (.getfield 26, 3) := by decide +kernel
theorem dX5_forget_4 : decode cX5_forget 4 = .ok (.getfield 153, 3) := by decide +kernel
theorem dX5_forget_7 : decode cX5_forget 7 = .ok (.ifCond .ne 8, 3) := by decide +kernel
theorem dX5_forget_10 : decode cX5_forget 10 = .ok (.bipush (-2), 2) := by decide +kernel
theorem dX5_forget_12 : decode cX5_forget 12 = .ok (.goto 10, 3) := by decide +kernel
theorem dX5_forget_15 : decode cX5_forget 15 = .ok (.aload_n 0, 1) := by decide +kernel
theorem dX5_forget_16 : decode cX5_forget 16 = .ok (.getfield 26, 3) := by decide +kernel
theorem dX5_forget_19 : decode cX5_forget 19 = .ok (.invokevirtual 154, 3) := by decide +kernel
theorem dX5_forget_22 : decode cX5_forget 22 = .ok (.ireturn, 1) := by decide +kernel
set_option maxRecDepth 20000 in
theorem ggX5_level_X0_isNumber : GoodIn wsX5_level wsX0_isNumber := goodIn_r _ [5, 6, 7, 8] (by decide +kernel) (by decide +kernel)
set_option maxRecDepth 20000 in
theorem gX5_level_X0_isNumber : GoodIn wsX5_level (va_wsS RX5 155 yX0_isNumber wsX0_isNumber) := goodIn_app (goodIn_of _ (by decide +kernel)) ggX5_level_X0_isNumber
set_option maxRecDepth 20000 in
theorem ggX5_level_X5_isDay : GoodIn wsX5_level wsX5_isDay := goodIn_r _ [11, 12, 6, 7, 8] (by decide +kernel) (by decide +kernel)
set_option maxRecDepth 20000 in
theorem gX5_level_X5_isDay : GoodIn wsX5_level (va_wsS RX5 68 yX5_isDay wsX5_isDay) := goodIn_app (goodIn_of _ (by decide +kernel)) ggX5_level_X5_isDay
set_option maxRecDepth 20000 in
theorem ggX5_level_X0_levelAhead : GoodIn wsX5_level wsX0_levelAhead := goodIn_r _ [16, 17, 18, 19, 20, 4, 21, 22, 23, 24, 25, 26, 27, 28, 29, 30, 31, 32, 33, 34, 35, 36, 37, 38, 39, 40, 41, 42, 43, 44, 45, 46, 47, 48, 49, 50, 51, 52, 53, 54, 55, 56, 57, 58, 59, 60, 61, 62, 63, 64, 65, 66, 67, 68, 69, 70, 71, 72, 73, 74, 75, 76, 77, 78, 79, 80, 81, 82, 83, 84, 85, 86, 87, 7, 88, 89, 90, 91, 92, 93, 94, 95, 96, 97, 103, 104, 105, 106, 107, 108, 109, 110, 111, 112, 113, 114, 115, 116, 117, 118, 119, 120, 121, 122, 123, 124, 125] (by decide +kernel) (by decide +kernel)
set_option maxRecDepth 20000 in
theorem gX5_level_X0_levelAhead : GoodIn wsX5_level (wsV RX5 158 RX0 yX0_levelAhead wsX0_levelAhead) := goodIn_app (goodIn_of _ (by decide +kernel)) ggX5_level_X0_levelAhead
theorem dX5_level_0 : decode cX5_level 0 = .ok (.iload_n 1, 1) := by decide +kernel
theorem dX5_level_1 : decode cX5_level 1 = .ok (.invokestatic 155, 3) := by decide +kernel
theorem dX5_level_4 : decode cX5_level 4 = .ok (.ifCond .eq 22, 3) := by decide +kernel
theorem dX5_level_7 : decode cX5_level 7 = .ok (.iload_n 2, 1) := by decide +kernel
theorem dX5_level_8 : decode cX5_level 8 = .ok (.invokestatic 68, 3) := by decide +kernel
theorem dX5_level_11 : decode cX5_level 11 = .ok (.ifCond .eq 15, 3) := by decide +kernel
theorem dX5_level_14 : decode cX5_level 14 = .ok (.aload_n 0, 1) := by decide +kernel
theorem dX5_level_15 : decode cX5_level 15 = .ok (.getfield 35, 3) := by decide +kernel
theorem dX5_level_18 : decode cX5_level 18 = .ok (.iload_n 1, 1) := by decide +kernel
theorem dX5_level_19 : decode cX5_level 19 = .ok (.iload_n 2, 1) := by decide +kernel
theorem dX5_level_20 : decode cX5_level 20 = .ok (.invokevirtual 158, 3) := by decide +kernel
theorem dX5_level_23 : decode cX5_level 23 = .ok (.goto 4, 3) := by decide +kernel
theorem dX5_level_26 : decode cX5_level 26 = .ok (.iconst (-1), 1) := by decide +kernel
theorem dX5_level_27 : decode cX5_level 27 = .ok (.ireturn, 1) := by decide +kernel
set_option maxRecDepth 20000 in
theorem ggX5_agrees_X0_isNumber : GoodIn wsX5_agrees wsX0_isNumber := goodIn_r _ [5, 6, 7, 8] (by decide +kernel) (by decide +kernel)
set_option maxRecDepth 20000 in
theorem gX5_agrees_X0_isNumber : GoodIn wsX5_agrees (va_wsS RX5 155 yX0_isNumber wsX0_isNumber) := goodIn_app (goodIn_of _ (by decide +kernel)) ggX5_agrees_X0_isNumber
set_option maxRecDepth 20000 in
theorem ggX5_agrees_X0_fitsSigns : GoodIn wsX5_agrees wsX0_fitsSigns := goodIn_r _ [12, 13, 14, 15, 16, 17, 4, 18, 19, 20, 21, 22, 23, 24, 25, 26, 27, 28, 29, 30, 31, 32, 33, 34, 35, 36, 37, 38, 39, 40, 41, 42, 43, 44, 45, 46, 47, 48, 49, 50, 51, 52, 53, 54, 55, 56, 57, 58, 59, 60, 61, 62, 63, 64, 65, 66, 67, 68, 69, 70, 71, 72, 73, 74, 75, 76, 7, 77, 78, 79, 80, 81, 82, 83, 84, 85, 86, 87, 88, 89, 90, 91, 92, 93, 94, 95, 96, 97, 98, 99, 100, 101, 102, 103, 109, 110, 111, 112, 113, 114, 115, 116, 117, 118, 119, 120, 121, 122, 123, 124, 125, 126, 127, 128, 129, 130, 131, 132, 133, 134, 135] (by decide +kernel) (by decide +kernel)
set_option maxRecDepth 20000 in
theorem gX5_agrees_X0_fitsSigns : GoodIn wsX5_agrees (wsV RX5 161 RX0 yX0_fitsSigns wsX0_fitsSigns) := goodIn_app (goodIn_of _ (by decide +kernel)) ggX5_agrees_X0_fitsSigns
theorem dX5_agrees_0 : decode cX5_agrees 0 = .ok (.iload_n 1, 1) := by decide +kernel
theorem dX5_agrees_1 : decode cX5_agrees 1 = .ok (.invokestatic 155, 3) := by decide +kernel
theorem dX5_agrees_4 : decode cX5_agrees 4 = .ok (.ifCond .ne 5, 3) := by decide +kernel
theorem dX5_agrees_7 : decode cX5_agrees 7 = .ok (.iconst (-1), 1) := by decide +kernel
theorem dX5_agrees_8 : decode cX5_agrees 8 = .ok (.ireturn, 1) := by decide +kernel
theorem dX5_agrees_9 : decode cX5_agrees 9 = .ok (.aload_n 0, 1) := by decide +kernel
theorem dX5_agrees_10 : decode cX5_agrees 10 = .ok (.getfield 35, 3) := by decide +kernel
theorem dX5_agrees_13 : decode cX5_agrees 13 = .ok (.iload_n 1, 1) := by decide +kernel
theorem dX5_agrees_14 : decode cX5_agrees 14 = .ok (.invokevirtual 161, 3) := by decide +kernel
theorem dX5_agrees_17 : decode cX5_agrees 17 = .ok (.ifCond .eq 7, 3) := by decide +kernel
theorem dX5_agrees_20 : decode cX5_agrees 20 = .ok (.iconst 1, 1) := by decide +kernel
theorem dX5_agrees_21 : decode cX5_agrees 21 = .ok (.goto 4, 3) := by decide +kernel
theorem dX5_agrees_24 : decode cX5_agrees 24 = .ok (.iconst 0, 1) := by decide +kernel
theorem dX5_agrees_25 : decode cX5_agrees 25 = .ok (.ireturn, 1) := by decide +kernel
set_option maxRecDepth 20000 in
theorem ggX5_field_X5_within : GoodIn wsX5_field wsX5_within := goodIn_r _ [5] (by decide +kernel) (by decide +kernel)
set_option maxRecDepth 20000 in
theorem gX5_field_X5_within : GoodIn wsX5_field (va_wsS RX5 43 yX5_within wsX5_within) := goodIn_app (goodIn_of _ (by decide +kernel)) ggX5_field_X5_within
set_option maxRecDepth 20000 in
theorem ggX5_field_X0_gatherAgreeing : GoodIn wsX5_field wsX0_gatherAgreeing := goodIn_r _ [10, 11, 12, 13, 14, 15, 9, 16, 17, 18, 19, 20, 21, 22, 23, 24, 25, 26, 27, 28, 29, 30, 31, 32, 33, 34, 35, 36, 37, 38, 39, 40, 41, 42, 43, 44, 45, 46, 47, 48, 49, 50, 51, 52, 53, 54, 55, 56, 57, 58, 59, 60, 61, 62, 63, 64, 65, 66, 67, 68, 69, 70, 71, 72, 73, 74, 75, 76, 77, 78, 79, 80, 4, 81, 82, 83, 84, 85, 86, 87, 88, 89, 90, 91, 92, 93, 94, 95, 96, 97, 98, 99, 100, 101, 102, 103, 104, 105, 106, 107, 108, 109, 145, 146, 147, 148, 149, 150, 151, 152, 153, 154, 155, 156, 157, 158, 159, 160, 161, 162, 163, 164, 165, 166, 167, 168, 169, 170, 171] (by decide +kernel) (by decide +kernel)
set_option maxRecDepth 20000 in
theorem gX5_field_X0_gatherAgreeing : GoodIn wsX5_field (wsV RX5 164 RX0 yX0_gatherAgreeing wsX0_gatherAgreeing) := goodIn_app (goodIn_of _ (by decide +kernel)) ggX5_field_X0_gatherAgreeing
set_option maxRecDepth 20000 in
theorem ggX5_field_X0_leastAgreeing : GoodIn wsX5_field wsX0_leastAgreeing := goodIn_r _ [113, 11, 12, 80, 4, 81, 145, 146, 147, 148, 149, 150, 151, 152] (by decide +kernel) (by decide +kernel)
set_option maxRecDepth 20000 in
theorem gX5_field_X0_leastAgreeing : GoodIn wsX5_field (wsV RX5 170 RX0 yX0_leastAgreeing wsX0_leastAgreeing) := goodIn_app (goodIn_of _ (by decide +kernel)) ggX5_field_X0_leastAgreeing
set_option maxRecDepth 20000 in
theorem ggX5_field_X0_isOdd : GoodIn wsX5_field wsX0_isOdd := goodIn_r _ [117, 11, 12, 80, 4, 81, 64, 65, 9, 66, 145, 146, 147, 148, 149, 150, 151, 152] (by decide +kernel) (by decide +kernel)
set_option maxRecDepth 20000 in
theorem gX5_field_X0_isOdd : GoodIn wsX5_field (wsV RX5 173 RX0 yX0_isOdd wsX0_isOdd) := goodIn_app (goodIn_of _ (by decide +kernel)) ggX5_field_X0_isOdd
set_option maxRecDepth 20000 in
theorem ggX5_field_X0_dayThatTellsMost : GoodIn wsX5_field wsX0_dayThatTellsMost := goodIn_r _ [121, 11, 122, 123, 124, 125, 9, 126, 127, 12, 128, 17, 80, 4, 81, 23, 24, 25, 26, 27, 28, 29, 30, 31, 32, 33, 34, 35, 36, 37, 38, 39, 40, 41, 42, 43, 44, 45, 46, 47, 48, 49, 50, 51, 52, 53, 54, 55, 56, 57, 58, 59, 60, 61, 62, 63, 64, 65, 66, 108, 109, 67, 68, 69, 70, 71, 72, 129, 130, 131, 132, 133, 97, 98, 99, 100, 101, 102, 134, 135, 136, 137, 138, 87, 88, 89, 90, 91, 92, 19, 20, 21, 22, 139, 94, 95, 96, 145, 146, 147, 148, 149, 150, 151, 152, 157, 158, 159, 160, 161, 162, 163, 164, 165, 166, 167, 168, 169, 170, 171] (by decide +kernel) (by decide +kernel)
set_option maxRecDepth 20000 in
theorem gX5_field_X0_dayThatTellsMost : GoodIn wsX5_field (wsV RX5 176 RX0 yX0_dayThatTellsMost wsX0_dayThatTellsMost) := goodIn_app (goodIn_of _ (by decide +kernel)) ggX5_field_X0_dayThatTellsMost
theorem dX5_field_0 : decode cX5_field 0 = .ok (.iload_n 1, 1) := by decide +kernel
theorem dX5_field_1 : decode cX5_field 1 = .ok (.iconst 0, 1) := by decide +kernel
theorem dX5_field_2 : decode cX5_field 2 = .ok (.iconst 3, 1) := by decide +kernel
theorem dX5_field_3 : decode cX5_field 3 = .ok (.invokestatic 43, 3) := by decide +kernel
theorem dX5_field_6 : decode cX5_field 6 = .ok (.ifCond .ne 5, 3) := by decide +kernel
theorem dX5_field_9 : decode cX5_field 9 = .ok (.iconst (-1), 1) := by decide +kernel
theorem dX5_field_10 : decode cX5_field 10 = .ok (.ireturn, 1) := by decide +kernel
theorem dX5_field_11 : decode cX5_field 11 = .ok (.aload_n 0, 1) := by decide +kernel
theorem dX5_field_12 : decode cX5_field 12 = .ok (.getfield 35, 3) := by decide +kernel
theorem dX5_field_15 : decode cX5_field 15 = .ok (.invokevirtual 164, 3) := by decide +kernel
theorem dX5_field_18 : decode cX5_field 18 = .ok (.iload_n 1, 1) := by decide +kernel
theorem dX5_field_19 : decode cX5_field 19 = .ok (.tableswitch 57 0 2 #[25, 33, 41], 25) := by decide +kernel
theorem dX5_field_44 : decode cX5_field 44 = .ok (.aload_n 0, 1) := by decide +kernel
theorem dX5_field_45 : decode cX5_field 45 = .ok (.getfield 35, 3) := by decide +kernel
theorem dX5_field_48 : decode cX5_field 48 = .ok (.getfield 167, 3) := by decide +kernel
theorem dX5_field_51 : decode cX5_field 51 = .ok (.ireturn, 1) := by decide +kernel
theorem dX5_field_52 : decode cX5_field 52 = .ok (.aload_n 0, 1) := by decide +kernel
theorem dX5_field_53 : decode cX5_field 53 = .ok (.getfield 35, 3) := by decide +kernel
theorem dX5_field_56 : decode cX5_field 56 = .ok (.invokevirtual 170, 3) := by decide +kernel
theorem dX5_field_59 : decode cX5_field 59 = .ok (.ireturn, 1) := by decide +kernel
theorem dX5_field_60 : decode cX5_field 60 = .ok (.aload_n 0, 1) := by decide +kernel
theorem dX5_field_61 : decode cX5_field 61 = .ok (.getfield 35, 3) := by decide +kernel
theorem dX5_field_64 : decode cX5_field 64 = .ok (.invokevirtual 173, 3) := by decide +kernel
theorem dX5_field_67 : decode cX5_field 67 = .ok (.ifCond .eq 7, 3) := by decide +kernel
theorem dX5_field_70 : decode cX5_field 70 = .ok (.iconst 1, 1) := by decide +kernel
theorem dX5_field_71 : decode cX5_field 71 = .ok (.goto 4, 3) := by decide +kernel
theorem dX5_field_74 : decode cX5_field 74 = .ok (.iconst 0, 1) := by decide +kernel
theorem dX5_field_75 : decode cX5_field 75 = .ok (.ireturn, 1) := by decide +kernel
theorem dX5_field_76 : decode cX5_field 76 = .ok (.aload_n 0, 1) := by decide +kernel
theorem dX5_field_77 : decode cX5_field 77 = .ok (.getfield 35, 3) := by decide +kernel
theorem dX5_field_80 : decode cX5_field 80 = .ok (.invokevirtual 176, 3) := by decide +kernel
theorem dX5_field_83 : decode cX5_field 83 = .ok (.ireturn, 1) := by decide +kernel
set_option maxRecDepth 20000 in
theorem ggX5_count_X2_setOfOn : GoodIn wsX5_count wsX2_setOfOn := goodIn_r _ [8, 9, 10, 11, 12, 7, 13, 14, 27, 28, 39, 40, 41, 42, 43, 44, 45] (by decide +kernel) (by decide +kernel)
set_option maxRecDepth 20000 in
theorem gX5_count_X2_setOfOn : GoodIn wsX5_count (wsV RX5 120 RX2 yX2_setOfOn wsX2_setOfOn) := goodIn_app (goodIn_of _ (by decide +kernel)) ggX5_count_X2_setOfOn
set_option maxRecDepth 20000 in
theorem ggX5_count_J6_bitCount_0f7a4 : GoodIn wsX5_count wsJ6_bitCount_0f7a4 := goodIn_r _ [18, 19, 20, 21] (by decide +kernel) (by decide +kernel)
set_option maxRecDepth 20000 in
theorem gX5_count_J6_bitCount_0f7a4 : GoodIn wsX5_count (va_wsS RX5 179 yJ6_bitCount_0f7a4 wsJ6_bitCount_0f7a4) := goodIn_app (goodIn_of _ (by decide +kernel)) ggX5_count_J6_bitCount_0f7a4
theorem dX5_count_0 : decode cX5_count 0 = .ok (.iload_n 1, 1) := by decide +kernel
theorem dX5_count_1 : decode cX5_count 1 = .ok (.tableswitch 90 0 5 #[39, 47, 58, 66, 74, 82], 39) := by decide +kernel
theorem dX5_count_40 : decode cX5_count 40 = .ok (.aload_n 0, 1) := by decide +kernel
theorem dX5_count_41 : decode cX5_count 41 = .ok (.getfield 19, 3) := by decide +kernel
theorem dX5_count_44 : decode cX5_count 44 = .ok (.getfield 99, 3) := by decide +kernel
theorem dX5_count_47 : decode cX5_count 47 = .ok (.ireturn, 1) := by decide +kernel
theorem dX5_count_48 : decode cX5_count 48 = .ok (.aload_n 0, 1) := by decide +kernel
theorem dX5_count_49 : decode cX5_count 49 = .ok (.getfield 19, 3) := by decide +kernel
theorem dX5_count_52 : decode cX5_count 52 = .ok (.invokevirtual 120, 3) := by decide +kernel
theorem dX5_count_55 : decode cX5_count 55 = .ok (.invokestatic 179, 3) := by decide +kernel
theorem dX5_count_58 : decode cX5_count 58 = .ok (.ireturn, 1) := by decide +kernel
theorem dX5_count_59 : decode cX5_count 59 = .ok (.aload_n 0, 1) := by decide +kernel
theorem dX5_count_60 : decode cX5_count 60 = .ok (.getfield 26, 3) := by decide +kernel
theorem dX5_count_63 : decode cX5_count 63 = .ok (.getfield 153, 3) := by decide +kernel
theorem dX5_count_66 : decode cX5_count 66 = .ok (.ireturn, 1) := by decide +kernel
theorem dX5_count_67 : decode cX5_count 67 = .ok (.aload_n 0, 1) := by decide +kernel
theorem dX5_count_68 : decode cX5_count 68 = .ok (.getfield 10, 3) := by decide +kernel
theorem dX5_count_71 : decode cX5_count 71 = .ok (.getfield 184, 3) := by decide +kernel
theorem dX5_count_74 : decode cX5_count 74 = .ok (.ireturn, 1) := by decide +kernel
theorem dX5_count_75 : decode cX5_count 75 = .ok (.aload_n 0, 1) := by decide +kernel
theorem dX5_count_76 : decode cX5_count 76 = .ok (.getfield 10, 3) := by decide +kernel
theorem dX5_count_79 : decode cX5_count 79 = .ok (.getfield 130, 3) := by decide +kernel
theorem dX5_count_82 : decode cX5_count 82 = .ok (.ireturn, 1) := by decide +kernel
theorem dX5_count_83 : decode cX5_count 83 = .ok (.aload_n 0, 1) := by decide +kernel
theorem dX5_count_84 : decode cX5_count 84 = .ok (.getfield 10, 3) := by decide +kernel
theorem dX5_count_87 : decode cX5_count 87 = .ok (.getfield 113, 3) := by decide +kernel
theorem dX5_count_90 : decode cX5_count 90 = .ok (.ireturn, 1) := by decide +kernel
theorem dX5_count_91 : decode cX5_count 91 = .ok (.iconst (-1), 1) := by decide +kernel
theorem dX5_count_92 : decode cX5_count 92 = .ok (.ireturn, 1) := by decide +kernel
theorem dX5_trace_0 : decode cX5_trace 0 = .ok (.aload_n 0, 1) := by decide +kernel
theorem dX5_trace_1 : decode cX5_trace 1 = .ok (.getfield 39, 3) := by decide +kernel
theorem dX5_trace_4 : decode cX5_trace 4 = .ok (.lreturn, 1) := by decide +kernel
set_option maxRecDepth 20000 in
theorem ggX5_sureBy_X2_loadOf : GoodIn wsX5_sureBy wsX2_loadOf := goodIn_r _ [7, 8, 9, 10, 11, 6, 12, 13, 14, 15, 16, 17, 18, 19, 20, 21, 22, 23, 24, 25, 26, 27, 28, 29, 30, 31, 32, 33, 34, 71, 72, 73, 74, 75, 76, 77, 78, 79] (by decide +kernel) (by decide +kernel)
set_option maxRecDepth 20000 in
theorem gX5_sureBy_X2_loadOf : GoodIn wsX5_sureBy (wsV RX5 123 RX2 yX2_loadOf wsX2_loadOf) := goodIn_app (goodIn_of _ (by decide +kernel)) ggX5_sureBy_X2_loadOf
set_option maxRecDepth 20000 in
theorem ggX5_sureBy_X1_daysLasted : GoodIn wsX5_sureBy wsX1_daysLasted := goodIn_r _ [39, 40, 41, 42, 43, 38, 44, 45, 46, 47, 48, 49, 50, 51, 52, 53, 54, 55, 56, 57, 58, 59, 65, 66, 67, 68, 69, 70] (by decide +kernel) (by decide +kernel)
set_option maxRecDepth 20000 in
theorem gX5_sureBy_X1_daysLasted : GoodIn wsX5_sureBy (wsV RX5 127 RX1 yX1_daysLasted wsX1_daysLasted) := goodIn_app (goodIn_of _ (by decide +kernel)) ggX5_sureBy_X1_daysLasted
theorem dX5_sureBy_0 : decode cX5_sureBy 0 = .ok (.aload_n 0, 1) := by decide +kernel
theorem dX5_sureBy_1 : decode cX5_sureBy 1 = .ok (.getfield 10, 3) := by decide +kernel
theorem dX5_sureBy_4 : decode cX5_sureBy 4 = .ok (.aload_n 0, 1) := by decide +kernel
theorem dX5_sureBy_5 : decode cX5_sureBy 5 = .ok (.getfield 19, 3) := by decide +kernel
theorem dX5_sureBy_8 : decode cX5_sureBy 8 = .ok (.iload_n 1, 1) := by decide +kernel
theorem dX5_sureBy_9 : decode cX5_sureBy 9 = .ok (.iconst 5, 1) := by decide +kernel
theorem dX5_sureBy_10 : decode cX5_sureBy 10 = .ok (.aload_n 0, 1) := by decide +kernel
theorem dX5_sureBy_11 : decode cX5_sureBy 11 = .ok (.getfield 10, 3) := by decide +kernel
theorem dX5_sureBy_14 : decode cX5_sureBy 14 = .ok (.getfield 113, 3) := by decide +kernel
theorem dX5_sureBy_17 : decode cX5_sureBy 17 = .ok (.invokevirtual 123, 3) := by decide +kernel
theorem dX5_sureBy_20 : decode cX5_sureBy 20 = .ok (.invokevirtual 127, 3) := by decide +kernel
theorem dX5_sureBy_23 : decode cX5_sureBy 23 = .ok (.ireturn, 1) := by decide +kernel
set_option maxRecDepth 20000 in
theorem ggX5_worthiestSet_X2_worthOf : GoodIn wsX5_worthiestSet wsX2_worthOf := goodIn_r _ [6, 7, 8, 9, 10, 5, 11, 12, 13, 14, 15, 16, 73, 74, 75, 76, 77, 78, 79, 80, 81] (by decide +kernel) (by decide +kernel)
set_option maxRecDepth 20000 in
theorem gX5_worthiestSet_X2_worthOf : GoodIn wsX5_worthiestSet (wsV RX5 147 RX2 yX2_worthOf wsX2_worthOf) := goodIn_app (goodIn_of _ (by decide +kernel)) ggX5_worthiestSet_X2_worthOf
set_option maxRecDepth 20000 in
theorem ggX5_worthiestSet_X5_sureBy : GoodIn wsX5_worthiestSet wsX5_sureBy := goodIn_r _ [21, 22, 1, 23, 24, 25, 5, 26, 7, 8, 9, 10, 11, 12, 13, 14, 15, 16, 27, 28, 29, 30, 31, 32, 33, 34, 35, 36, 37, 38, 39, 40, 41, 42, 43, 44, 45, 46, 47, 48, 49, 50, 51, 52, 53, 54, 55, 56, 57, 58, 59, 60, 61, 62, 20, 63, 64, 65, 66, 67, 68, 69, 70, 71, 72, 82, 83, 84, 85, 86, 87, 73, 74, 75, 76, 77, 78, 79, 80, 81] (by decide +kernel) (by decide +kernel)
set_option maxRecDepth 20000 in
theorem gX5_worthiestSet_X5_sureBy : GoodIn wsX5_worthiestSet (wsV RX5 141 RX5 yX5_sureBy wsX5_sureBy) := goodIn_app (goodIn_of _ (by decide +kernel)) ggX5_worthiestSet_X5_sureBy
theorem dX5_worthiestSet_0 : decode cX5_worthiestSet 0 = .ok (.bipush (-9), 2) := by decide +kernel
theorem dX5_worthiestSet_2 : decode cX5_worthiestSet 2 = .ok (.istore_n 2, 1) := by decide +kernel
theorem dX5_worthiestSet_3 : decode cX5_worthiestSet 3 = .ok (.iconst (-1), 1) := by decide +kernel
theorem dX5_worthiestSet_4 : decode cX5_worthiestSet 4 = .ok (.istore_n 3, 1) := by decide +kernel
theorem dX5_worthiestSet_5 : decode cX5_worthiestSet 5 = .ok (.iconst 1, 1) := by decide +kernel
theorem dX5_worthiestSet_6 : decode cX5_worthiestSet 6 = .ok (.aload_n 0, 1) := by decide +kernel
theorem dX5_worthiestSet_7 : decode cX5_worthiestSet 7 = .ok (.getfield 19, 3) := by decide +kernel
theorem dX5_worthiestSet_10 : decode cX5_worthiestSet 10 = .ok (.getfield 99, 3) := by decide +kernel
theorem dX5_worthiestSet_13 : decode cX5_worthiestSet 13 = .ok (.ishl, 1) := by decide +kernel
theorem dX5_worthiestSet_14 : decode cX5_worthiestSet 14 = .ok (.istore 4, 2) := by decide +kernel
theorem dX5_worthiestSet_16 : decode cX5_worthiestSet 16 = .ok (.iconst 0, 1) := by decide +kernel
theorem dX5_worthiestSet_17 : decode cX5_worthiestSet 17 = .ok (.istore 5, 2) := by decide +kernel
theorem dX5_worthiestSet_19 : decode cX5_worthiestSet 19 = .ok (.iload 5, 2) := by decide +kernel
theorem dX5_worthiestSet_21 : decode cX5_worthiestSet 21 = .ok (.iload 4, 2) := by decide +kernel
theorem dX5_worthiestSet_23 : decode cX5_worthiestSet 23 = .ok (.if_icmp .ge 42, 3) := by decide +kernel
theorem dX5_worthiestSet_26 : decode cX5_worthiestSet 26 = .ok (.aload_n 0, 1) := by decide +kernel
theorem dX5_worthiestSet_27 : decode cX5_worthiestSet 27 = .ok (.getfield 19, 3) := by decide +kernel
theorem dX5_worthiestSet_30 : decode cX5_worthiestSet 30 = .ok (.iload 5, 2) := by decide +kernel
theorem dX5_worthiestSet_32 : decode cX5_worthiestSet 32 = .ok (.invokevirtual 147, 3) := by decide +kernel
theorem dX5_worthiestSet_35 : decode cX5_worthiestSet 35 = .ok (.istore 6, 2) := by decide +kernel
theorem dX5_worthiestSet_37 : decode cX5_worthiestSet 37 = .ok (.iload 6, 2) := by decide +kernel
theorem dX5_worthiestSet_39 : decode cX5_worthiestSet 39 = .ok (.iload_n 3, 1) := by decide +kernel
theorem dX5_worthiestSet_40 : decode cX5_worthiestSet 40 = .ok (.if_icmp .le 19, 3) := by decide +kernel
theorem dX5_worthiestSet_43 : decode cX5_worthiestSet 43 = .ok (.aload_n 0, 1) := by decide +kernel
theorem dX5_worthiestSet_44 : decode cX5_worthiestSet 44 = .ok (.iload 5, 2) := by decide +kernel
theorem dX5_worthiestSet_46 : decode cX5_worthiestSet 46 = .ok (.invokevirtual 141, 3) := by decide +kernel
theorem dX5_worthiestSet_49 : decode cX5_worthiestSet 49 = .ok (.iload_n 1, 1) := by decide +kernel
theorem dX5_worthiestSet_50 : decode cX5_worthiestSet 50 = .ok (.if_icmp .lt 9, 3) := by decide +kernel
theorem dX5_worthiestSet_53 : decode cX5_worthiestSet 53 = .ok (.iload 5, 2) := by decide +kernel
theorem dX5_worthiestSet_55 : decode cX5_worthiestSet 55 = .ok (.istore_n 2, 1) := by decide +kernel
theorem dX5_worthiestSet_56 : decode cX5_worthiestSet 56 = .ok (.iload 6, 2) := by decide +kernel
theorem dX5_worthiestSet_58 : decode cX5_worthiestSet 58 = .ok (.istore_n 3, 1) := by decide +kernel
theorem dX5_worthiestSet_59 : decode cX5_worthiestSet 59 = .ok (.iinc 5 1, 3) := by decide +kernel
theorem dX5_worthiestSet_62 : decode cX5_worthiestSet 62 = .ok (.goto (-43), 3) := by decide +kernel
theorem dX5_worthiestSet_65 : decode cX5_worthiestSet 65 = .ok (.iload_n 2, 1) := by decide +kernel
theorem dX5_worthiestSet_66 : decode cX5_worthiestSet 66 = .ok (.ireturn, 1) := by decide +kernel
theorem dX5_within_0 : decode cX5_within 0 = .ok (.iload_n 0, 1) := by decide +kernel
theorem dX5_within_1 : decode cX5_within 1 = .ok (.iload_n 1, 1) := by decide +kernel
theorem dX5_within_2 : decode cX5_within 2 = .ok (.if_icmp .lt 12, 3) := by decide +kernel
theorem dX5_within_5 : decode cX5_within 5 = .ok (.iload_n 0, 1) := by decide +kernel
theorem dX5_within_6 : decode cX5_within 6 = .ok (.iload_n 2, 1) := by decide +kernel
theorem dX5_within_7 : decode cX5_within 7 = .ok (.if_icmp .gt 7, 3) := by decide +kernel
theorem dX5_within_10 : decode cX5_within 10 = .ok (.iconst 1, 1) := by decide +kernel
theorem dX5_within_11 : decode cX5_within 11 = .ok (.goto 4, 3) := by decide +kernel
theorem dX5_within_14 : decode cX5_within 14 = .ok (.iconst 0, 1) := by decide +kernel
theorem dX5_within_15 : decode cX5_within 15 = .ok (.ireturn, 1) := by decide +kernel
set_option maxRecDepth 20000 in
theorem ggX5_isDay_X5_within : GoodIn wsX5_isDay wsX5_within := goodIn_r _ [4] (by decide +kernel) (by decide +kernel)
set_option maxRecDepth 20000 in
theorem gX5_isDay_X5_within : GoodIn wsX5_isDay (va_wsS RX5 43 yX5_within wsX5_within) := goodIn_app (goodIn_of _ (by decide +kernel)) ggX5_isDay_X5_within
theorem dX5_isDay_0 : decode cX5_isDay 0 = .ok (.iload_n 0, 1) := by decide +kernel
theorem dX5_isDay_1 : decode cX5_isDay 1 = .ok (.iconst 0, 1) := by decide +kernel
theorem dX5_isDay_2 : decode cX5_isDay 2 = .ok (.sipush 399, 3) := by decide +kernel
theorem dX5_isDay_5 : decode cX5_isDay 5 = .ok (.invokestatic 43, 3) := by decide +kernel
theorem dX5_isDay_8 : decode cX5_isDay 8 = .ok (.ireturn, 1) := by decide +kernel
set_option maxRecDepth 20000 in
theorem ggX5_isTries_X5_within : GoodIn wsX5_isTries wsX5_within := goodIn_r _ [4] (by decide +kernel) (by decide +kernel)
set_option maxRecDepth 20000 in
theorem gX5_isTries_X5_within : GoodIn wsX5_isTries (va_wsS RX5 43 yX5_within wsX5_within) := goodIn_app (goodIn_of _ (by decide +kernel)) ggX5_isTries_X5_within
theorem dX5_isTries_0 : decode cX5_isTries 0 = .ok (.iload_n 0, 1) := by decide +kernel
theorem dX5_isTries_1 : decode cX5_isTries 1 = .ok (.iconst 1, 1) := by decide +kernel
theorem dX5_isTries_2 : decode cX5_isTries 2 = .ok (.iconst 5, 1) := by decide +kernel
theorem dX5_isTries_3 : decode cX5_isTries 3 = .ok (.invokestatic 43, 3) := by decide +kernel
theorem dX5_isTries_6 : decode cX5_isTries 6 = .ok (.ireturn, 1) := by decide +kernel
theorem dX5_powerOfThree_0 : decode cX5_powerOfThree 0 = .ok (.iconst 1, 1) := by decide +kernel
theorem dX5_powerOfThree_1 : decode cX5_powerOfThree 1 = .ok (.istore_n 1, 1) := by decide +kernel
theorem dX5_powerOfThree_2 : decode cX5_powerOfThree 2 = .ok (.iconst 0, 1) := by decide +kernel
theorem dX5_powerOfThree_3 : decode cX5_powerOfThree 3 = .ok (.istore_n 2, 1) := by decide +kernel
theorem dX5_powerOfThree_4 : decode cX5_powerOfThree 4 = .ok (.iload_n 2, 1) := by decide +kernel
theorem dX5_powerOfThree_5 : decode cX5_powerOfThree 5 = .ok (.iload_n 0, 1) := by decide +kernel
theorem dX5_powerOfThree_6 : decode cX5_powerOfThree 6 = .ok (.if_icmp .ge 19, 3) := by decide +kernel
theorem dX5_powerOfThree_9 : decode cX5_powerOfThree 9 = .ok (.iload_n 2, 1) := by decide +kernel
theorem dX5_powerOfThree_10 : decode cX5_powerOfThree 10 = .ok (.bipush 12, 2) := by decide +kernel
theorem dX5_powerOfThree_12 : decode cX5_powerOfThree 12 = .ok (.if_icmp .ge 13, 3) := by decide +kernel
theorem dX5_powerOfThree_15 : decode cX5_powerOfThree 15 = .ok (.iload_n 1, 1) := by decide +kernel
theorem dX5_powerOfThree_16 : decode cX5_powerOfThree 16 = .ok (.iconst 3, 1) := by decide +kernel
theorem dX5_powerOfThree_17 : decode cX5_powerOfThree 17 = .ok (.imul, 1) := by decide +kernel
theorem dX5_powerOfThree_18 : decode cX5_powerOfThree 18 = .ok (.istore_n 1, 1) := by decide +kernel
theorem dX5_powerOfThree_19 : decode cX5_powerOfThree 19 = .ok (.iinc 2 1, 3) := by decide +kernel
theorem dX5_powerOfThree_22 : decode cX5_powerOfThree 22 = .ok (.goto (-18), 3) := by decide +kernel
theorem dX5_powerOfThree_25 : decode cX5_powerOfThree 25 = .ok (.iload_n 1, 1) := by decide +kernel
theorem dX5_powerOfThree_26 : decode cX5_powerOfThree 26 = .ok (.ireturn, 1) := by decide +kernel
theorem dX5_at_0 : decode cX5_at 0 = .ok (.iload_n 1, 1) := by decide +kernel
theorem dX5_at_1 : decode cX5_at 1 = .ok (.ifCond .lt 15, 3) := by decide +kernel
theorem dX5_at_4 : decode cX5_at 4 = .ok (.iload_n 1, 1) := by decide +kernel
theorem dX5_at_5 : decode cX5_at 5 = .ok (.aload_n 0, 1) := by decide +kernel
theorem dX5_at_6 : decode cX5_at 6 = .ok (.arraylength, 1) := by decide +kernel
theorem dX5_at_7 : decode cX5_at 7 = .ok (.if_icmp .ge 9, 3) := by decide +kernel
theorem dX5_at_10 : decode cX5_at 10 = .ok (.aload_n 0, 1) := by decide +kernel
theorem dX5_at_11 : decode cX5_at 11 = .ok (.iload_n 1, 1) := by decide +kernel
theorem dX5_at_12 : decode cX5_at 12 = .ok (.iaload, 1) := by decide +kernel
theorem dX5_at_13 : decode cX5_at 13 = .ok (.goto 4, 3) := by decide +kernel
theorem dX5_at_16 : decode cX5_at 16 = .ok (.iconst 0, 1) := by decide +kernel
theorem dX5_at_17 : decode cX5_at 17 = .ok (.ireturn, 1) := by decide +kernel
theorem dX5_put_0 : decode cX5_put 0 = .ok (.iload_n 1, 1) := by decide +kernel
theorem dX5_put_1 : decode cX5_put 1 = .ok (.ifCond .lt 13, 3) := by decide +kernel
theorem dX5_put_4 : decode cX5_put 4 = .ok (.iload_n 1, 1) := by decide +kernel
theorem dX5_put_5 : decode cX5_put 5 = .ok (.aload_n 0, 1) := by decide +kernel
theorem dX5_put_6 : decode cX5_put 6 = .ok (.arraylength, 1) := by decide +kernel
theorem dX5_put_7 : decode cX5_put 7 = .ok (.if_icmp .ge 7, 3) := by decide +kernel
theorem dX5_put_10 : decode cX5_put 10 = .ok (.aload_n 0, 1) := by decide +kernel
theorem dX5_put_11 : decode cX5_put 11 = .ok (.iload_n 1, 1) := by decide +kernel
theorem dX5_put_12 : decode cX5_put 12 = .ok (.iload_n 2, 1) := by decide +kernel
theorem dX5_put_13 : decode cX5_put 13 = .ok (.iastore, 1) := by decide +kernel
theorem dX5_put_14 : decode cX5_put 14 = .ok (.return_, 1) := by decide +kernel
