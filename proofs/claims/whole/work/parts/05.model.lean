theorem dX6_init_0 : decode cX6_init 0 = .ok (.aload_n 0, 1) := by decide +kernel
theorem dX6_init_1 : decode cX6_init 1 = .ok (.invokespecial 1, 3) := by decide +kernel
theorem dX6_init_4 : decode cX6_init 4 = .ok (.aload_n 0, 1) := by decide +kernel
theorem dX6_init_5 : decode cX6_init 5 = .ok (.iconst 3, 1) := by decide +kernel
theorem dX6_init_6 : decode cX6_init 6 = .ok (.newarray .int, 2) := by decide +kernel
theorem dX6_init_8 : decode cX6_init 8 = .ok (.putfield 7, 3) := by decide +kernel
theorem dX6_init_11 : decode cX6_init 11 = .ok (.aload_n 0, 1) := by decide +kernel
theorem dX6_init_12 : decode cX6_init 12 = .ok (.iconst 3, 1) := by decide +kernel
theorem dX6_init_13 : decode cX6_init 13 = .ok (.newarray .int, 2) := by decide +kernel
theorem dX6_init_15 : decode cX6_init 15 = .ok (.putfield 13, 3) := by decide +kernel
theorem dX6_init_18 : decode cX6_init 18 = .ok (.aload_n 0, 1) := by decide +kernel
theorem dX6_init_19 : decode cX6_init 19 = .ok (.iconst 1, 1) := by decide +kernel
theorem dX6_init_20 : decode cX6_init 20 = .ok (.putfield 16, 3) := by decide +kernel
theorem dX6_init_23 : decode cX6_init 23 = .ok (.aload_n 0, 1) := by decide +kernel
theorem dX6_init_24 : decode cX6_init 24 = .ok (.bipush 12, 2) := by decide +kernel
theorem dX6_init_26 : decode cX6_init 26 = .ok (.newarray .int, 2) := by decide +kernel
theorem dX6_init_28 : decode cX6_init 28 = .ok (.putfield 20, 3) := by decide +kernel
theorem dX6_init_31 : decode cX6_init 31 = .ok (.aload_n 0, 1) := by decide +kernel
theorem dX6_init_32 : decode cX6_init 32 = .ok (.bipush 8, 2) := by decide +kernel
theorem dX6_init_34 : decode cX6_init 34 = .ok (.newarray .int, 2) := by decide +kernel
theorem dX6_init_36 : decode cX6_init 36 = .ok (.putfield 23, 3) := by decide +kernel
theorem dX6_init_39 : decode cX6_init 39 = .ok (.aload_n 0, 1) := by decide +kernel
theorem dX6_init_40 : decode cX6_init 40 = .ok (.bipush 8, 2) := by decide +kernel
theorem dX6_init_42 : decode cX6_init 42 = .ok (.newarray .int, 2) := by decide +kernel
theorem dX6_init_44 : decode cX6_init 44 = .ok (.putfield 26, 3) := by decide +kernel
theorem dX6_init_47 : decode cX6_init 47 = .ok (.aload_n 0, 1) := by decide +kernel
theorem dX6_init_48 : decode cX6_init 48 = .ok (.bipush 8, 2) := by decide +kernel
theorem dX6_init_50 : decode cX6_init 50 = .ok (.newarray .int, 2) := by decide +kernel
theorem dX6_init_52 : decode cX6_init 52 = .ok (.putfield 29, 3) := by decide +kernel
theorem dX6_init_55 : decode cX6_init 55 = .ok (.aload_n 0, 1) := by decide +kernel
theorem dX6_init_56 : decode cX6_init 56 = .ok (.bipush 8, 2) := by decide +kernel
theorem dX6_init_58 : decode cX6_init 58 = .ok (.newarray .int, 2) := by decide +kernel
theorem dX6_init_60 : decode cX6_init 60 = .ok (.putfield 32, 3) := by decide +kernel
theorem dX6_init_63 : decode cX6_init 63 = .ok (.aload_n 0, 1) := by decide +kernel
theorem dX6_init_64 : decode cX6_init 64 = .ok (.bipush 8, 2) := by decide +kernel
theorem dX6_init_66 : decode cX6_init 66 = .ok (.newarray .int, 2) := by decide +kernel
theorem dX6_init_68 : decode cX6_init 68 = .ok (.putfield 35, 3) := by decide +kernel
theorem dX6_init_71 : decode cX6_init 71 = .ok (.aload_n 0, 1) := by decide +kernel
theorem dX6_init_72 : decode cX6_init 72 = .ok (.bipush 8, 2) := by decide +kernel
theorem dX6_init_74 : decode cX6_init 74 = .ok (.newarray .int, 2) := by decide +kernel
theorem dX6_init_76 : decode cX6_init 76 = .ok (.putfield 38, 3) := by decide +kernel
theorem dX6_init_79 : decode cX6_init 79 = .ok (.aload_n 0, 1) := by decide +kernel
theorem dX6_init_80 : decode cX6_init 80 = .ok (.bipush 8, 2) := by decide +kernel
theorem dX6_init_82 : decode cX6_init 82 = .ok (.newarray .boolean, 2) := by decide +kernel
theorem dX6_init_84 : decode cX6_init 84 = .ok (.putfield 41, 3) := by decide +kernel
theorem dX6_init_87 : decode cX6_init 87 = .ok (.aload_n 0, 1) := by decide +kernel
theorem dX6_init_88 : decode cX6_init 88 = .ok (.bipush 12, 2) := by decide +kernel
theorem dX6_init_90 : decode cX6_init 90 = .ok (.newarray .int, 2) := by decide +kernel
theorem dX6_init_92 : decode cX6_init 92 = .ok (.putfield 45, 3) := by decide +kernel
theorem dX6_init_95 : decode cX6_init 95 = .ok (.aload_n 0, 1) := by decide +kernel
theorem dX6_init_96 : decode cX6_init 96 = .ok (.bipush 12, 2) := by decide +kernel
theorem dX6_init_98 : decode cX6_init 98 = .ok (.newarray .int, 2) := by decide +kernel
theorem dX6_init_100 : decode cX6_init 100 = .ok (.putfield 48, 3) := by decide +kernel
theorem dX6_init_103 : decode cX6_init 103 = .ok (.aload_n 0, 1) := by decide +kernel
theorem dX6_init_104 : decode cX6_init 104 = .ok (.sipush 400, 3) := by decide +kernel
theorem dX6_init_107 : decode cX6_init 107 = .ok (.newarray .int, 2) := by decide +kernel
theorem dX6_init_109 : decode cX6_init 109 = .ok (.putfield 51, 3) := by decide +kernel
theorem dX6_init_112 : decode cX6_init 112 = .ok (.aload_n 0, 1) := by decide +kernel
theorem dX6_init_113 : decode cX6_init 113 = .ok (.sipush 4000, 3) := by decide +kernel
theorem dX6_init_116 : decode cX6_init 116 = .ok (.newarray .int, 2) := by decide +kernel
theorem dX6_init_118 : decode cX6_init 118 = .ok (.putfield 54, 3) := by decide +kernel
theorem dX6_init_121 : decode cX6_init 121 = .ok (.aload_n 0, 1) := by decide +kernel
theorem dX6_init_122 : decode cX6_init 122 = .ok (.getfield 7, 3) := by decide +kernel
theorem dX6_init_125 : decode cX6_init 125 = .ok (.iconst 0, 1) := by decide +kernel
theorem dX6_init_126 : decode cX6_init 126 = .ok (.sipush 1000, 3) := by decide +kernel
theorem dX6_init_129 : decode cX6_init 129 = .ok (.iastore, 1) := by decide +kernel
theorem dX6_init_130 : decode cX6_init 130 = .ok (.aload_n 0, 1) := by decide +kernel
theorem dX6_init_131 : decode cX6_init 131 = .ok (.getfield 7, 3) := by decide +kernel
theorem dX6_init_134 : decode cX6_init 134 = .ok (.iconst 1, 1) := by decide +kernel
theorem dX6_init_135 : decode cX6_init 135 = .ok (.iconst 1, 1) := by decide +kernel
theorem dX6_init_136 : decode cX6_init 136 = .ok (.iastore, 1) := by decide +kernel
theorem dX6_init_137 : decode cX6_init 137 = .ok (.aload_n 0, 1) := by decide +kernel
theorem dX6_init_138 : decode cX6_init 138 = .ok (.getfield 7, 3) := by decide +kernel
theorem dX6_init_141 : decode cX6_init 141 = .ok (.iconst 2, 1) := by decide +kernel
theorem dX6_init_142 : decode cX6_init 142 = .ok (.bipush 50, 2) := by decide +kernel
theorem dX6_init_144 : decode cX6_init 144 = .ok (.iastore, 1) := by decide +kernel
theorem dX6_init_145 : decode cX6_init 145 = .ok (.aload_n 0, 1) := by decide +kernel
theorem dX6_init_146 : decode cX6_init 146 = .ok (.getfield 13, 3) := by decide +kernel
theorem dX6_init_149 : decode cX6_init 149 = .ok (.iconst 0, 1) := by decide +kernel
theorem dX6_init_150 : decode cX6_init 150 = .ok (.bipush 100, 2) := by decide +kernel
theorem dX6_init_152 : decode cX6_init 152 = .ok (.iastore, 1) := by decide +kernel
theorem dX6_init_153 : decode cX6_init 153 = .ok (.aload_n 0, 1) := by decide +kernel
theorem dX6_init_154 : decode cX6_init 154 = .ok (.getfield 13, 3) := by decide +kernel
theorem dX6_init_157 : decode cX6_init 157 = .ok (.iconst 1, 1) := by decide +kernel
theorem dX6_init_158 : decode cX6_init 158 = .ok (.bipush 90, 2) := by decide +kernel
theorem dX6_init_160 : decode cX6_init 160 = .ok (.iastore, 1) := by decide +kernel
theorem dX6_init_161 : decode cX6_init 161 = .ok (.aload_n 0, 1) := by decide +kernel
theorem dX6_init_162 : decode cX6_init 162 = .ok (.getfield 13, 3) := by decide +kernel
theorem dX6_init_165 : decode cX6_init 165 = .ok (.iconst 2, 1) := by decide +kernel
theorem dX6_init_166 : decode cX6_init 166 = .ok (.bipush 70, 2) := by decide +kernel
theorem dX6_init_168 : decode cX6_init 168 = .ok (.iastore, 1) := by decide +kernel
theorem dX6_init_169 : decode cX6_init 169 = .ok (.return_, 1) := by decide +kernel
theorem dX6_in_0 : decode cX6_in 0 = .ok (.iload_n 0, 1) := by decide +kernel
theorem dX6_in_1 : decode cX6_in 1 = .ok (.iload_n 1, 1) := by decide +kernel
theorem dX6_in_2 : decode cX6_in 2 = .ok (.if_icmp .lt 12, 3) := by decide +kernel
theorem dX6_in_5 : decode cX6_in 5 = .ok (.iload_n 0, 1) := by decide +kernel
theorem dX6_in_6 : decode cX6_in 6 = .ok (.iload_n 2, 1) := by decide +kernel
theorem dX6_in_7 : decode cX6_in 7 = .ok (.if_icmp .gt 7, 3) := by decide +kernel
theorem dX6_in_10 : decode cX6_in 10 = .ok (.iconst 1, 1) := by decide +kernel
theorem dX6_in_11 : decode cX6_in 11 = .ok (.goto 4, 3) := by decide +kernel
theorem dX6_in_14 : decode cX6_in 14 = .ok (.iconst 0, 1) := by decide +kernel
theorem dX6_in_15 : decode cX6_in 15 = .ok (.ireturn, 1) := by decide +kernel
set_option maxRecDepth 20000 in
theorem ggX6_set_X6_in : GoodIn wsX6_set wsX6_in := goodIn_r _ [6] (by decide +kernel) (by decide +kernel)
set_option maxRecDepth 20000 in
theorem gX6_set_X6_in : GoodIn wsX6_set (va_wsS RX6 60 yX6_in wsX6_in) := goodIn_app (goodIn_of _ (by decide +kernel)) ggX6_set_X6_in
theorem dX6_set_0 : decode cX6_set 0 = .ok (.aload_n 0, 1) := by decide +kernel
theorem dX6_set_1 : decode cX6_set 1 = .ok (.iconst 0, 1) := by decide +kernel
theorem dX6_set_2 : decode cX6_set 2 = .ok (.putfield 57, 3) := by decide +kernel
theorem dX6_set_5 : decode cX6_set 5 = .ok (.iload_n 1, 1) := by decide +kernel
theorem dX6_set_6 : decode cX6_set 6 = .ok (.iconst 0, 1) := by decide +kernel
theorem dX6_set_7 : decode cX6_set 7 = .ok (.iconst 2, 1) := by decide +kernel
theorem dX6_set_8 : decode cX6_set 8 = .ok (.invokestatic 60, 3) := by decide +kernel
theorem dX6_set_11 : decode cX6_set 11 = .ok (.ifCond .eq 43, 3) := by decide +kernel
theorem dX6_set_14 : decode cX6_set 14 = .ok (.iload_n 2, 1) := by decide +kernel
theorem dX6_set_15 : decode cX6_set 15 = .ok (.iload_n 1, 1) := by decide +kernel
theorem dX6_set_16 : decode cX6_set 16 = .ok (.iconst 1, 1) := by decide +kernel
theorem dX6_set_17 : decode cX6_set 17 = .ok (.if_icmp .ne 7, 3) := by decide +kernel
theorem dX6_set_20 : decode cX6_set 20 = .ok (.iconst 0, 1) := by decide +kernel
theorem dX6_set_21 : decode cX6_set 21 = .ok (.goto 4, 3) := by decide +kernel
theorem dX6_set_24 : decode cX6_set 24 = .ok (.iconst 1, 1) := by decide +kernel
theorem dX6_set_25 : decode cX6_set 25 = .ok (.iload_n 1, 1) := by decide +kernel
theorem dX6_set_26 : decode cX6_set 26 = .ok (.ifCond .ne 9, 3) := by decide +kernel
theorem dX6_set_29 : decode cX6_set 29 = .ok (.sipush 5000, 3) := by decide +kernel
theorem dX6_set_32 : decode cX6_set 32 = .ok (.goto 16, 3) := by decide +kernel
theorem dX6_set_35 : decode cX6_set 35 = .ok (.iload_n 1, 1) := by decide +kernel
theorem dX6_set_36 : decode cX6_set 36 = .ok (.iconst 1, 1) := by decide +kernel
theorem dX6_set_37 : decode cX6_set 37 = .ok (.if_icmp .ne 8, 3) := by decide +kernel
theorem dX6_set_40 : decode cX6_set 40 = .ok (.bipush 20, 2) := by decide +kernel
theorem dX6_set_42 : decode cX6_set 42 = .ok (.goto 6, 3) := by decide +kernel
theorem dX6_set_45 : decode cX6_set 45 = .ok (.sipush 500, 3) := by decide +kernel
theorem dX6_set_48 : decode cX6_set 48 = .ok (.invokestatic 60, 3) := by decide +kernel
theorem dX6_set_51 : decode cX6_set 51 = .ok (.ifCond .ne 5, 3) := by decide +kernel
theorem dX6_set_54 : decode cX6_set 54 = .ok (.iconst (-1), 1) := by decide +kernel
theorem dX6_set_55 : decode cX6_set 55 = .ok (.ireturn, 1) := by decide +kernel
theorem dX6_set_56 : decode cX6_set 56 = .ok (.aload_n 0, 1) := by decide +kernel
theorem dX6_set_57 : decode cX6_set 57 = .ok (.getfield 7, 3) := by decide +kernel
theorem dX6_set_60 : decode cX6_set 60 = .ok (.iload_n 1, 1) := by decide +kernel
theorem dX6_set_61 : decode cX6_set 61 = .ok (.iaload, 1) := by decide +kernel
theorem dX6_set_62 : decode cX6_set 62 = .ok (.istore_n 3, 1) := by decide +kernel
theorem dX6_set_63 : decode cX6_set 63 = .ok (.aload_n 0, 1) := by decide +kernel
theorem dX6_set_64 : decode cX6_set 64 = .ok (.getfield 7, 3) := by decide +kernel
theorem dX6_set_67 : decode cX6_set 67 = .ok (.iload_n 1, 1) := by decide +kernel
theorem dX6_set_68 : decode cX6_set 68 = .ok (.iload_n 2, 1) := by decide +kernel
theorem dX6_set_69 : decode cX6_set 69 = .ok (.iastore, 1) := by decide +kernel
theorem dX6_set_70 : decode cX6_set 70 = .ok (.iload_n 3, 1) := by decide +kernel
theorem dX6_set_71 : decode cX6_set 71 = .ok (.ireturn, 1) := by decide +kernel
set_option maxRecDepth 20000 in
theorem ggX6_shares_X6_in : GoodIn wsX6_shares wsX6_in := goodIn_r _ [6] (by decide +kernel) (by decide +kernel)
set_option maxRecDepth 20000 in
theorem gX6_shares_X6_in : GoodIn wsX6_shares (va_wsS RX6 60 yX6_in wsX6_in) := goodIn_app (goodIn_of _ (by decide +kernel)) ggX6_shares_X6_in
theorem dX6_shares_0 : decode cX6_shares 0 = .ok (.aload_n 0, 1) := by decide +kernel
theorem dX6_shares_1 : decode cX6_shares 1 = .ok (.iconst 0, 1) := by decide +kernel
theorem dX6_shares_2 : decode cX6_shares 2 = .ok (.putfield 57, 3) := by decide +kernel
theorem dX6_shares_5 : decode cX6_shares 5 = .ok (.iload_n 1, 1) := by decide +kernel
theorem dX6_shares_6 : decode cX6_shares 6 = .ok (.bipush 10, 2) := by decide +kernel
theorem dX6_shares_8 : decode cX6_shares 8 = .ok (.bipush 100, 2) := by decide +kernel
theorem dX6_shares_10 : decode cX6_shares 10 = .ok (.invokestatic 60, 3) := by decide +kernel
theorem dX6_shares_13 : decode cX6_shares 13 = .ok (.ifCond .eq 23, 3) := by decide +kernel
theorem dX6_shares_16 : decode cX6_shares 16 = .ok (.iload_n 2, 1) := by decide +kernel
theorem dX6_shares_17 : decode cX6_shares 17 = .ok (.bipush 10, 2) := by decide +kernel
theorem dX6_shares_19 : decode cX6_shares 19 = .ok (.iload_n 1, 1) := by decide +kernel
theorem dX6_shares_20 : decode cX6_shares 20 = .ok (.invokestatic 60, 3) := by decide +kernel
theorem dX6_shares_23 : decode cX6_shares 23 = .ok (.ifCond .eq 13, 3) := by decide +kernel
theorem dX6_shares_26 : decode cX6_shares 26 = .ok (.iload_n 3, 1) := by decide +kernel
theorem dX6_shares_27 : decode cX6_shares 27 = .ok (.bipush 10, 2) := by decide +kernel
theorem dX6_shares_29 : decode cX6_shares 29 = .ok (.iload_n 2, 1) := by decide +kernel
theorem dX6_shares_30 : decode cX6_shares 30 = .ok (.invokestatic 60, 3) := by decide +kernel
theorem dX6_shares_33 : decode cX6_shares 33 = .ok (.ifCond .ne 5, 3) := by decide +kernel
theorem dX6_shares_36 : decode cX6_shares 36 = .ok (.iconst (-1), 1) := by decide +kernel
theorem dX6_shares_37 : decode cX6_shares 37 = .ok (.ireturn, 1) := by decide +kernel
theorem dX6_shares_38 : decode cX6_shares 38 = .ok (.aload_n 0, 1) := by decide +kernel
theorem dX6_shares_39 : decode cX6_shares 39 = .ok (.getfield 13, 3) := by decide +kernel
theorem dX6_shares_42 : decode cX6_shares 42 = .ok (.iconst 0, 1) := by decide +kernel
theorem dX6_shares_43 : decode cX6_shares 43 = .ok (.iload_n 1, 1) := by decide +kernel
theorem dX6_shares_44 : decode cX6_shares 44 = .ok (.iastore, 1) := by decide +kernel
theorem dX6_shares_45 : decode cX6_shares 45 = .ok (.aload_n 0, 1) := by decide +kernel
theorem dX6_shares_46 : decode cX6_shares 46 = .ok (.getfield 13, 3) := by decide +kernel
theorem dX6_shares_49 : decode cX6_shares 49 = .ok (.iconst 1, 1) := by decide +kernel
theorem dX6_shares_50 : decode cX6_shares 50 = .ok (.iload_n 2, 1) := by decide +kernel
theorem dX6_shares_51 : decode cX6_shares 51 = .ok (.iastore, 1) := by decide +kernel
theorem dX6_shares_52 : decode cX6_shares 52 = .ok (.aload_n 0, 1) := by decide +kernel
theorem dX6_shares_53 : decode cX6_shares 53 = .ok (.getfield 13, 3) := by decide +kernel
theorem dX6_shares_56 : decode cX6_shares 56 = .ok (.iconst 2, 1) := by decide +kernel
theorem dX6_shares_57 : decode cX6_shares 57 = .ok (.iload_n 3, 1) := by decide +kernel
theorem dX6_shares_58 : decode cX6_shares 58 = .ok (.iastore, 1) := by decide +kernel
theorem dX6_shares_59 : decode cX6_shares 59 = .ok (.iconst 1, 1) := by decide +kernel
theorem dX6_shares_60 : decode cX6_shares 60 = .ok (.ireturn, 1) := by decide +kernel
set_option maxRecDepth 20000 in
theorem ggX6_season_X6_in : GoodIn wsX6_season wsX6_in := goodIn_r _ [7] (by decide +kernel) (by decide +kernel)
set_option maxRecDepth 20000 in
theorem gX6_season_X6_in : GoodIn wsX6_season (va_wsS RX6 60 yX6_in wsX6_in) := goodIn_app (goodIn_of _ (by decide +kernel)) ggX6_season_X6_in
theorem dX6_season_0 : decode cX6_season 0 = .ok (.aload_n 0, 1) := by decide +kernel
theorem dX6_season_1 : decode cX6_season 1 = .ok (.iconst 0, 1) := by decide +kernel
theorem dX6_season_2 : decode cX6_season 2 = .ok (.putfield 57, 3) := by decide +kernel
theorem dX6_season_5 : decode cX6_season 5 = .ok (.iload_n 1, 1) := by decide +kernel
theorem dX6_season_6 : decode cX6_season 6 = .ok (.iconst 1, 1) := by decide +kernel
theorem dX6_season_7 : decode cX6_season 7 = .ok (.bipush 12, 2) := by decide +kernel
theorem dX6_season_9 : decode cX6_season 9 = .ok (.invokestatic 60, 3) := by decide +kernel
theorem dX6_season_12 : decode cX6_season 12 = .ok (.ifCond .ne 5, 3) := by decide +kernel
theorem dX6_season_15 : decode cX6_season 15 = .ok (.iconst (-1), 1) := by decide +kernel
theorem dX6_season_16 : decode cX6_season 16 = .ok (.ireturn, 1) := by decide +kernel
theorem dX6_season_17 : decode cX6_season 17 = .ok (.iconst 1, 1) := by decide +kernel
theorem dX6_season_18 : decode cX6_season 18 = .ok (.istore_n 3, 1) := by decide +kernel
theorem dX6_season_19 : decode cX6_season 19 = .ok (.iconst 0, 1) := by decide +kernel
theorem dX6_season_20 : decode cX6_season 20 = .ok (.istore 4, 2) := by decide +kernel
theorem dX6_season_22 : decode cX6_season 22 = .ok (.iload 4, 2) := by decide +kernel
theorem dX6_season_24 : decode cX6_season 24 = .ok (.iload_n 1, 1) := by decide +kernel
theorem dX6_season_25 : decode cX6_season 25 = .ok (.if_icmp .ge 13, 3) := by decide +kernel
theorem dX6_season_28 : decode cX6_season 28 = .ok (.iload_n 3, 1) := by decide +kernel
theorem dX6_season_29 : decode cX6_season 29 = .ok (.iconst 3, 1) := by decide +kernel
theorem dX6_season_30 : decode cX6_season 30 = .ok (.imul, 1) := by decide +kernel
theorem dX6_season_31 : decode cX6_season 31 = .ok (.istore_n 3, 1) := by decide +kernel
theorem dX6_season_32 : decode cX6_season 32 = .ok (.iinc 4 1, 3) := by decide +kernel
theorem dX6_season_35 : decode cX6_season 35 = .ok (.goto (-13), 3) := by decide +kernel
theorem dX6_season_38 : decode cX6_season 38 = .ok (.iload_n 2, 1) := by decide +kernel
theorem dX6_season_39 : decode cX6_season 39 = .ok (.iconst 0, 1) := by decide +kernel
theorem dX6_season_40 : decode cX6_season 40 = .ok (.iload_n 3, 1) := by decide +kernel
theorem dX6_season_41 : decode cX6_season 41 = .ok (.iconst 1, 1) := by decide +kernel
theorem dX6_season_42 : decode cX6_season 42 = .ok (.isub, 1) := by decide +kernel
theorem dX6_season_43 : decode cX6_season 43 = .ok (.invokestatic 60, 3) := by decide +kernel
theorem dX6_season_46 : decode cX6_season 46 = .ok (.ifCond .ne 5, 3) := by decide +kernel
theorem dX6_season_49 : decode cX6_season 49 = .ok (.iconst (-1), 1) := by decide +kernel
theorem dX6_season_50 : decode cX6_season 50 = .ok (.ireturn, 1) := by decide +kernel
theorem dX6_season_51 : decode cX6_season 51 = .ok (.aload_n 0, 1) := by decide +kernel
theorem dX6_season_52 : decode cX6_season 52 = .ok (.iload_n 1, 1) := by decide +kernel
theorem dX6_season_53 : decode cX6_season 53 = .ok (.putfield 16, 3) := by decide +kernel
theorem dX6_season_56 : decode cX6_season 56 = .ok (.iload_n 2, 1) := by decide +kernel
theorem dX6_season_57 : decode cX6_season 57 = .ok (.istore 4, 2) := by decide +kernel
theorem dX6_season_59 : decode cX6_season 59 = .ok (.iconst 0, 1) := by decide +kernel
theorem dX6_season_60 : decode cX6_season 60 = .ok (.istore 5, 2) := by decide +kernel
theorem dX6_season_62 : decode cX6_season 62 = .ok (.iload 5, 2) := by decide +kernel
theorem dX6_season_64 : decode cX6_season 64 = .ok (.iload_n 1, 1) := by decide +kernel
theorem dX6_season_65 : decode cX6_season 65 = .ok (.if_icmp .ge 26, 3) := by decide +kernel
theorem dX6_season_68 : decode cX6_season 68 = .ok (.aload_n 0, 1) := by decide +kernel
theorem dX6_season_69 : decode cX6_season 69 = .ok (.getfield 20, 3) := by decide +kernel
theorem dX6_season_72 : decode cX6_season 72 = .ok (.iload 5, 2) := by decide +kernel
theorem dX6_season_74 : decode cX6_season 74 = .ok (.iload 4, 2) := by decide +kernel
theorem dX6_season_76 : decode cX6_season 76 = .ok (.iconst 3, 1) := by decide +kernel
theorem dX6_season_77 : decode cX6_season 77 = .ok (.irem, 1) := by decide +kernel
theorem dX6_season_78 : decode cX6_season 78 = .ok (.iastore, 1) := by decide +kernel
theorem dX6_season_79 : decode cX6_season 79 = .ok (.iload 4, 2) := by decide +kernel
theorem dX6_season_81 : decode cX6_season 81 = .ok (.iconst 3, 1) := by decide +kernel
theorem dX6_season_82 : decode cX6_season 82 = .ok (.idiv, 1) := by decide +kernel
theorem dX6_season_83 : decode cX6_season 83 = .ok (.istore 4, 2) := by decide +kernel
theorem dX6_season_85 : decode cX6_season 85 = .ok (.iinc 5 1, 3) := by decide +kernel
theorem dX6_season_88 : decode cX6_season 88 = .ok (.goto (-26), 3) := by decide +kernel
theorem dX6_season_91 : decode cX6_season 91 = .ok (.iload_n 1, 1) := by decide +kernel
theorem dX6_season_92 : decode cX6_season 92 = .ok (.ireturn, 1) := by decide +kernel
theorem dX6_shareOf_0 : decode cX6_shareOf 0 = .ok (.aload_n 0, 1) := by decide +kernel
theorem dX6_shareOf_1 : decode cX6_shareOf 1 = .ok (.getfield 13, 3) := by decide +kernel
theorem dX6_shareOf_4 : decode cX6_shareOf 4 = .ok (.aload_n 0, 1) := by decide +kernel
theorem dX6_shareOf_5 : decode cX6_shareOf 5 = .ok (.getfield 20, 3) := by decide +kernel
theorem dX6_shareOf_8 : decode cX6_shareOf 8 = .ok (.iload_n 1, 1) := by decide +kernel
theorem dX6_shareOf_9 : decode cX6_shareOf 9 = .ok (.aload_n 0, 1) := by decide +kernel
theorem dX6_shareOf_10 : decode cX6_shareOf 10 = .ok (.getfield 16, 3) := by decide +kernel
theorem dX6_shareOf_13 : decode cX6_shareOf 13 = .ok (.irem, 1) := by decide +kernel
theorem dX6_shareOf_14 : decode cX6_shareOf 14 = .ok (.iaload, 1) := by decide +kernel
theorem dX6_shareOf_15 : decode cX6_shareOf 15 = .ok (.iaload, 1) := by decide +kernel
theorem dX6_shareOf_16 : decode cX6_shareOf 16 = .ok (.ireturn, 1) := by decide +kernel
set_option maxRecDepth 20000 in
theorem ggX6_isDay_X6_in : GoodIn wsX6_isDay wsX6_in := goodIn_r _ [4] (by decide +kernel) (by decide +kernel)
set_option maxRecDepth 20000 in
theorem gX6_isDay_X6_in : GoodIn wsX6_isDay (va_wsS RX6 60 yX6_in wsX6_in) := goodIn_app (goodIn_of _ (by decide +kernel)) ggX6_isDay_X6_in
theorem dX6_isDay_0 : decode cX6_isDay 0 = .ok (.iload_n 0, 1) := by decide +kernel
theorem dX6_isDay_1 : decode cX6_isDay 1 = .ok (.iconst 0, 1) := by decide +kernel
theorem dX6_isDay_2 : decode cX6_isDay 2 = .ok (.sipush 399, 3) := by decide +kernel
theorem dX6_isDay_5 : decode cX6_isDay 5 = .ok (.invokestatic 60, 3) := by decide +kernel
theorem dX6_isDay_8 : decode cX6_isDay 8 = .ok (.ireturn, 1) := by decide +kernel
set_option maxRecDepth 20000 in
theorem ggX6_share_X6_isDay : GoodIn wsX6_share wsX6_isDay := goodIn_r _ [5, 6, 7, 4, 8] (by decide +kernel) (by decide +kernel)
set_option maxRecDepth 20000 in
theorem gX6_share_X6_isDay : GoodIn wsX6_share (va_wsS RX6 64 yX6_isDay wsX6_isDay) := goodIn_app (goodIn_of _ (by decide +kernel)) ggX6_share_X6_isDay
set_option maxRecDepth 20000 in
theorem ggX6_share_X6_shareOf : GoodIn wsX6_share wsX6_shareOf := goodIn_r _ [12, 13, 14, 15, 16, 17, 18, 19, 20, 21, 22, 23, 24, 25, 26, 27, 28, 29, 30, 31, 32, 33, 34] (by decide +kernel) (by decide +kernel)
set_option maxRecDepth 20000 in
theorem gX6_share_X6_shareOf : GoodIn wsX6_share (wsV RX6 68 RX6 yX6_shareOf wsX6_shareOf) := goodIn_app (goodIn_of _ (by decide +kernel)) ggX6_share_X6_shareOf
theorem dX6_share_0 : decode cX6_share 0 = .ok (.aload_n 0, 1) := by decide +kernel
theorem dX6_share_1 : decode cX6_share 1 = .ok (.iconst 0, 1) := by decide +kernel
theorem dX6_share_2 : decode cX6_share 2 = .ok (.putfield 57, 3) := by decide +kernel
theorem dX6_share_5 : decode cX6_share 5 = .ok (.iload_n 1, 1) := by decide +kernel
theorem dX6_share_6 : decode cX6_share 6 = .ok (.invokestatic 64, 3) := by decide +kernel
theorem dX6_share_9 : decode cX6_share 9 = .ok (.ifCond .eq 11, 3) := by decide +kernel
theorem dX6_share_12 : decode cX6_share 12 = .ok (.aload_n 0, 1) := by decide +kernel
theorem dX6_share_13 : decode cX6_share 13 = .ok (.iload_n 1, 1) := by decide +kernel
theorem dX6_share_14 : decode cX6_share 14 = .ok (.invokevirtual 68, 3) := by decide +kernel
theorem dX6_share_17 : decode cX6_share 17 = .ok (.goto 4, 3) := by decide +kernel
theorem dX6_share_20 : decode cX6_share 20 = .ok (.iconst (-1), 1) := by decide +kernel
theorem dX6_share_21 : decode cX6_share 21 = .ok (.ireturn, 1) := by decide +kernel
set_option maxRecDepth 20000 in
theorem ggX6_isDuty_X6_in : GoodIn wsX6_isDuty wsX6_in := goodIn_r _ [5] (by decide +kernel) (by decide +kernel)
set_option maxRecDepth 20000 in
theorem gX6_isDuty_X6_in : GoodIn wsX6_isDuty (va_wsS RX6 60 yX6_in wsX6_in) := goodIn_app (goodIn_of _ (by decide +kernel)) ggX6_isDuty_X6_in
theorem dX6_isDuty_0 : decode cX6_isDuty 0 = .ok (.iload_n 1, 1) := by decide +kernel
theorem dX6_isDuty_1 : decode cX6_isDuty 1 = .ok (.iconst 0, 1) := by decide +kernel
theorem dX6_isDuty_2 : decode cX6_isDuty 2 = .ok (.aload_n 0, 1) := by decide +kernel
theorem dX6_isDuty_3 : decode cX6_isDuty 3 = .ok (.getfield 72, 3) := by decide +kernel
theorem dX6_isDuty_6 : decode cX6_isDuty 6 = .ok (.iconst 1, 1) := by decide +kernel
theorem dX6_isDuty_7 : decode cX6_isDuty 7 = .ok (.isub, 1) := by decide +kernel
theorem dX6_isDuty_8 : decode cX6_isDuty 8 = .ok (.invokestatic 60, 3) := by decide +kernel
theorem dX6_isDuty_11 : decode cX6_isDuty 11 = .ok (.ireturn, 1) := by decide +kernel
set_option maxRecDepth 20000 in
theorem ggX6_duty_X6_in : GoodIn wsX6_duty wsX6_in := goodIn_r _ [13] (by decide +kernel) (by decide +kernel)
set_option maxRecDepth 20000 in
theorem gX6_duty_X6_in : GoodIn wsX6_duty (va_wsS RX6 60 yX6_in wsX6_in) := goodIn_app (goodIn_of _ (by decide +kernel)) ggX6_duty_X6_in
theorem dX6_duty_0 : decode cX6_duty 0 = .ok (.aload_n 0, 1) := by decide +kernel
theorem dX6_duty_1 : decode cX6_duty 1 = .ok (.iconst 0, 1) := by decide +kernel
theorem dX6_duty_2 : decode cX6_duty 2 = .ok (.putfield 57, 3) := by decide +kernel
theorem dX6_duty_5 : decode cX6_duty 5 = .ok (.iload_n 1, 1) := by decide +kernel
theorem dX6_duty_6 : decode cX6_duty 6 = .ok (.iconst 0, 1) := by decide +kernel
theorem dX6_duty_7 : decode cX6_duty 7 = .ok (.iconst 2, 1) := by decide +kernel
theorem dX6_duty_8 : decode cX6_duty 8 = .ok (.invokestatic 60, 3) := by decide +kernel
theorem dX6_duty_11 : decode cX6_duty 11 = .ok (.ifCond .eq 64, 3) := by decide +kernel
theorem dX6_duty_14 : decode cX6_duty 14 = .ok (.iload_n 2, 1) := by decide +kernel
theorem dX6_duty_15 : decode cX6_duty 15 = .ok (.iconst 1, 1) := by decide +kernel
theorem dX6_duty_16 : decode cX6_duty 16 = .ok (.bipush 100, 2) := by decide +kernel
theorem dX6_duty_18 : decode cX6_duty 18 = .ok (.invokestatic 60, 3) := by decide +kernel
theorem dX6_duty_21 : decode cX6_duty 21 = .ok (.ifCond .eq 54, 3) := by decide +kernel
theorem dX6_duty_24 : decode cX6_duty 24 = .ok (.iload_n 3, 1) := by decide +kernel
theorem dX6_duty_25 : decode cX6_duty 25 = .ok (.iconst 1, 1) := by decide +kernel
theorem dX6_duty_26 : decode cX6_duty 26 = .ok (.bipush 20, 2) := by decide +kernel
theorem dX6_duty_28 : decode cX6_duty 28 = .ok (.invokestatic 60, 3) := by decide +kernel
theorem dX6_duty_31 : decode cX6_duty 31 = .ok (.ifCond .eq 44, 3) := by decide +kernel
theorem dX6_duty_34 : decode cX6_duty 34 = .ok (.iload_n 1, 1) := by decide +kernel
theorem dX6_duty_35 : decode cX6_duty 35 = .ok (.ifCond .le 14, 3) := by decide +kernel
theorem dX6_duty_38 : decode cX6_duty 38 = .ok (.iload 4, 2) := by decide +kernel
theorem dX6_duty_40 : decode cX6_duty 40 = .ok (.iconst 0, 1) := by decide +kernel
theorem dX6_duty_41 : decode cX6_duty 41 = .ok (.bipush 100, 2) := by decide +kernel
theorem dX6_duty_43 : decode cX6_duty 43 = .ok (.invokestatic 60, 3) := by decide +kernel
theorem dX6_duty_46 : decode cX6_duty 46 = .ok (.ifCond .eq 29, 3) := by decide +kernel
theorem dX6_duty_49 : decode cX6_duty 49 = .ok (.iload_n 1, 1) := by decide +kernel
theorem dX6_duty_50 : decode cX6_duty 50 = .ok (.iconst 2, 1) := by decide +kernel
theorem dX6_duty_51 : decode cX6_duty 51 = .ok (.if_icmp .ne 13, 3) := by decide +kernel
theorem dX6_duty_54 : decode cX6_duty 54 = .ok (.iload 5, 2) := by decide +kernel
theorem dX6_duty_56 : decode cX6_duty 56 = .ok (.iconst 1, 1) := by decide +kernel
theorem dX6_duty_57 : decode cX6_duty 57 = .ok (.iconst 5, 1) := by decide +kernel
theorem dX6_duty_58 : decode cX6_duty 58 = .ok (.invokestatic 60, 3) := by decide +kernel
theorem dX6_duty_61 : decode cX6_duty 61 = .ok (.ifCond .eq 14, 3) := by decide +kernel
theorem dX6_duty_64 : decode cX6_duty 64 = .ok (.iload 6, 2) := by decide +kernel
theorem dX6_duty_66 : decode cX6_duty 66 = .ok (.iconst 0, 1) := by decide +kernel
theorem dX6_duty_67 : decode cX6_duty 67 = .ok (.bipush 100, 2) := by decide +kernel
theorem dX6_duty_69 : decode cX6_duty 69 = .ok (.invokestatic 60, 3) := by decide +kernel
theorem dX6_duty_72 : decode cX6_duty 72 = .ok (.ifCond .ne 5, 3) := by decide +kernel
theorem dX6_duty_75 : decode cX6_duty 75 = .ok (.iconst (-1), 1) := by decide +kernel
theorem dX6_duty_76 : decode cX6_duty 76 = .ok (.ireturn, 1) := by decide +kernel
theorem dX6_duty_77 : decode cX6_duty 77 = .ok (.aload_n 0, 1) := by decide +kernel
theorem dX6_duty_78 : decode cX6_duty 78 = .ok (.getfield 72, 3) := by decide +kernel
theorem dX6_duty_81 : decode cX6_duty 81 = .ok (.bipush 8, 2) := by decide +kernel
theorem dX6_duty_83 : decode cX6_duty 83 = .ok (.if_icmp .ne 6, 3) := by decide +kernel
theorem dX6_duty_86 : decode cX6_duty 86 = .ok (.bipush (-3), 2) := by decide +kernel
theorem dX6_duty_88 : decode cX6_duty 88 = .ok (.ireturn, 1) := by decide +kernel
theorem dX6_duty_89 : decode cX6_duty 89 = .ok (.aload_n 0, 1) := by decide +kernel
theorem dX6_duty_90 : decode cX6_duty 90 = .ok (.getfield 23, 3) := by decide +kernel
theorem dX6_duty_93 : decode cX6_duty 93 = .ok (.aload_n 0, 1) := by decide +kernel
theorem dX6_duty_94 : decode cX6_duty 94 = .ok (.getfield 72, 3) := by decide +kernel
theorem dX6_duty_97 : decode cX6_duty 97 = .ok (.iload_n 1, 1) := by decide +kernel
theorem dX6_duty_98 : decode cX6_duty 98 = .ok (.iastore, 1) := by decide +kernel
theorem dX6_duty_99 : decode cX6_duty 99 = .ok (.aload_n 0, 1) := by decide +kernel
theorem dX6_duty_100 : decode cX6_duty 100 = .ok (.getfield 26, 3) := by decide +kernel
theorem dX6_duty_103 : decode cX6_duty 103 = .ok (.aload_n 0, 1) := by decide +kernel
theorem dX6_duty_104 : decode cX6_duty 104 = .ok (.getfield 72, 3) := by decide +kernel
theorem dX6_duty_107 : decode cX6_duty 107 = .ok (.iload_n 2, 1) := by decide +kernel
theorem dX6_duty_108 : decode cX6_duty 108 = .ok (.iastore, 1) := by decide +kernel
theorem dX6_duty_109 : decode cX6_duty 109 = .ok (.aload_n 0, 1) := by decide +kernel
theorem dX6_duty_110 : decode cX6_duty 110 = .ok (.getfield 29, 3) := by decide +kernel
theorem dX6_duty_113 : decode cX6_duty 113 = .ok (.aload_n 0, 1) := by decide +kernel
theorem dX6_duty_114 : decode cX6_duty 114 = .ok (.getfield 72, 3) := by decide +kernel
theorem dX6_duty_117 : decode cX6_duty 117 = .ok (.iload_n 3, 1) := by decide +kernel
theorem dX6_duty_118 : decode cX6_duty 118 = .ok (.iastore, 1) := by decide +kernel
theorem dX6_duty_119 : decode cX6_duty 119 = .ok (.aload_n 0, 1) := by decide +kernel
theorem dX6_duty_120 : decode cX6_duty 120 = .ok (.getfield 32, 3) := by decide +kernel
theorem dX6_duty_123 : decode cX6_duty 123 = .ok (.aload_n 0, 1) := by decide +kernel
theorem dX6_duty_124 : decode cX6_duty 124 = .ok (.getfield 72, 3) := by decide +kernel
theorem dX6_duty_127 : decode cX6_duty 127 = .ok (.iload_n 1, 1) := by decide +kernel
theorem dX6_duty_128 : decode cX6_duty 128 = .ok (.ifCond .le 8, 3) := by decide +kernel
theorem dX6_duty_131 : decode cX6_duty 131 = .ok (.iload 4, 2) := by decide +kernel
theorem dX6_duty_133 : decode cX6_duty 133 = .ok (.goto 4, 3) := by decide +kernel
theorem dX6_duty_136 : decode cX6_duty 136 = .ok (.iconst 0, 1) := by decide +kernel
theorem dX6_duty_137 : decode cX6_duty 137 = .ok (.iastore, 1) := by decide +kernel
theorem dX6_duty_138 : decode cX6_duty 138 = .ok (.aload_n 0, 1) := by decide +kernel
theorem dX6_duty_139 : decode cX6_duty 139 = .ok (.getfield 35, 3) := by decide +kernel
theorem dX6_duty_142 : decode cX6_duty 142 = .ok (.aload_n 0, 1) := by decide +kernel
theorem dX6_duty_143 : decode cX6_duty 143 = .ok (.getfield 72, 3) := by decide +kernel
theorem dX6_duty_146 : decode cX6_duty 146 = .ok (.iload_n 1, 1) := by decide +kernel
theorem dX6_duty_147 : decode cX6_duty 147 = .ok (.iconst 2, 1) := by decide +kernel
theorem dX6_duty_148 : decode cX6_duty 148 = .ok (.if_icmp .ne 8, 3) := by decide +kernel
theorem dX6_duty_151 : decode cX6_duty 151 = .ok (.iload 5, 2) := by decide +kernel
theorem dX6_duty_153 : decode cX6_duty 153 = .ok (.goto 4, 3) := by decide +kernel
theorem dX6_duty_156 : decode cX6_duty 156 = .ok (.iconst 1, 1) := by decide +kernel
theorem dX6_duty_157 : decode cX6_duty 157 = .ok (.iastore, 1) := by decide +kernel
theorem dX6_duty_158 : decode cX6_duty 158 = .ok (.aload_n 0, 1) := by decide +kernel
theorem dX6_duty_159 : decode cX6_duty 159 = .ok (.getfield 38, 3) := by decide +kernel
theorem dX6_duty_162 : decode cX6_duty 162 = .ok (.aload_n 0, 1) := by decide +kernel
theorem dX6_duty_163 : decode cX6_duty 163 = .ok (.getfield 72, 3) := by decide +kernel
theorem dX6_duty_166 : decode cX6_duty 166 = .ok (.iload 6, 2) := by decide +kernel
theorem dX6_duty_168 : decode cX6_duty 168 = .ok (.iastore, 1) := by decide +kernel
theorem dX6_duty_169 : decode cX6_duty 169 = .ok (.aload_n 0, 1) := by decide +kernel
theorem dX6_duty_170 : decode cX6_duty 170 = .ok (.getfield 41, 3) := by decide +kernel
theorem dX6_duty_173 : decode cX6_duty 173 = .ok (.aload_n 0, 1) := by decide +kernel
theorem dX6_duty_174 : decode cX6_duty 174 = .ok (.getfield 72, 3) := by decide +kernel
theorem dX6_duty_177 : decode cX6_duty 177 = .ok (.iconst 1, 1) := by decide +kernel
theorem dX6_duty_178 : decode cX6_duty 178 = .ok (.bastore, 1) := by decide +kernel
theorem dX6_duty_179 : decode cX6_duty 179 = .ok (.aload_n 0, 1) := by decide +kernel
theorem dX6_duty_180 : decode cX6_duty 180 = .ok (.dup, 1) := by decide +kernel
theorem dX6_duty_181 : decode cX6_duty 181 = .ok (.getfield 72, 3) := by decide +kernel
theorem dX6_duty_184 : decode cX6_duty 184 = .ok (.iconst 1, 1) := by decide +kernel
theorem dX6_duty_185 : decode cX6_duty 185 = .ok (.iadd, 1) := by decide +kernel
theorem dX6_duty_186 : decode cX6_duty 186 = .ok (.putfield 72, 3) := by decide +kernel
theorem dX6_duty_189 : decode cX6_duty 189 = .ok (.aload_n 0, 1) := by decide +kernel
theorem dX6_duty_190 : decode cX6_duty 190 = .ok (.getfield 72, 3) := by decide +kernel
theorem dX6_duty_193 : decode cX6_duty 193 = .ok (.iconst 1, 1) := by decide +kernel
theorem dX6_duty_194 : decode cX6_duty 194 = .ok (.isub, 1) := by decide +kernel
theorem dX6_duty_195 : decode cX6_duty 195 = .ok (.ireturn, 1) := by decide +kernel
set_option maxRecDepth 20000 in
theorem ggX6_on_X6_isDuty : GoodIn wsX6_on wsX6_isDuty := goodIn_r _ [7, 8, 9, 10, 6, 11, 12, 13, 14, 15, 16, 17, 18, 19, 20, 21, 22, 23, 24, 25, 26, 27, 28, 29, 30] (by decide +kernel) (by decide +kernel)
set_option maxRecDepth 20000 in
theorem gX6_on_X6_isDuty : GoodIn wsX6_on (wsV RX6 75 RX6 yX6_isDuty wsX6_isDuty) := goodIn_app (goodIn_of _ (by decide +kernel)) ggX6_on_X6_isDuty
theorem dX6_on_0 : decode cX6_on 0 = .ok (.aload_n 0, 1) := by decide +kernel
theorem dX6_on_1 : decode cX6_on 1 = .ok (.iconst 0, 1) := by decide +kernel
theorem dX6_on_2 : decode cX6_on 2 = .ok (.putfield 57, 3) := by decide +kernel
theorem dX6_on_5 : decode cX6_on 5 = .ok (.aload_n 0, 1) := by decide +kernel
theorem dX6_on_6 : decode cX6_on 6 = .ok (.iload_n 1, 1) := by decide +kernel
theorem dX6_on_7 : decode cX6_on 7 = .ok (.invokevirtual 75, 3) := by decide +kernel
theorem dX6_on_10 : decode cX6_on 10 = .ok (.ifCond .ne 5, 3) := by decide +kernel
theorem dX6_on_13 : decode cX6_on 13 = .ok (.iconst (-1), 1) := by decide +kernel
theorem dX6_on_14 : decode cX6_on 14 = .ok (.ireturn, 1) := by decide +kernel
theorem dX6_on_15 : decode cX6_on 15 = .ok (.aload_n 0, 1) := by decide +kernel
theorem dX6_on_16 : decode cX6_on 16 = .ok (.getfield 41, 3) := by decide +kernel
theorem dX6_on_19 : decode cX6_on 19 = .ok (.iload_n 1, 1) := by decide +kernel
theorem dX6_on_20 : decode cX6_on 20 = .ok (.baload, 1) := by decide +kernel
theorem dX6_on_21 : decode cX6_on 21 = .ok (.ifCond .eq 7, 3) := by decide +kernel
theorem dX6_on_24 : decode cX6_on 24 = .ok (.iconst 1, 1) := by decide +kernel
theorem dX6_on_25 : decode cX6_on 25 = .ok (.goto 4, 3) := by decide +kernel
theorem dX6_on_28 : decode cX6_on 28 = .ok (.iconst 0, 1) := by decide +kernel
theorem dX6_on_29 : decode cX6_on 29 = .ok (.istore_n 3, 1) := by decide +kernel
theorem dX6_on_30 : decode cX6_on 30 = .ok (.aload_n 0, 1) := by decide +kernel
theorem dX6_on_31 : decode cX6_on 31 = .ok (.getfield 41, 3) := by decide +kernel
theorem dX6_on_34 : decode cX6_on 34 = .ok (.iload_n 1, 1) := by decide +kernel
theorem dX6_on_35 : decode cX6_on 35 = .ok (.iload_n 2, 1) := by decide +kernel
theorem dX6_on_36 : decode cX6_on 36 = .ok (.bastore, 1) := by decide +kernel
theorem dX6_on_37 : decode cX6_on 37 = .ok (.iload_n 3, 1) := by decide +kernel
theorem dX6_on_38 : decode cX6_on 38 = .ok (.ireturn, 1) := by decide +kernel
theorem dX6_drop_0 : decode cX6_drop 0 = .ok (.aload_n 0, 1) := by decide +kernel
theorem dX6_drop_1 : decode cX6_drop 1 = .ok (.iconst 0, 1) := by decide +kernel
theorem dX6_drop_2 : decode cX6_drop 2 = .ok (.putfield 57, 3) := by decide +kernel
theorem dX6_drop_5 : decode cX6_drop 5 = .ok (.aload_n 0, 1) := by decide +kernel
theorem dX6_drop_6 : decode cX6_drop 6 = .ok (.getfield 72, 3) := by decide +kernel
theorem dX6_drop_9 : decode cX6_drop 9 = .ok (.ifCond .ne 6, 3) := by decide +kernel
theorem dX6_drop_12 : decode cX6_drop 12 = .ok (.bipush (-2), 2) := by decide +kernel
theorem dX6_drop_14 : decode cX6_drop 14 = .ok (.ireturn, 1) := by decide +kernel
theorem dX6_drop_15 : decode cX6_drop 15 = .ok (.aload_n 0, 1) := by decide +kernel
theorem dX6_drop_16 : decode cX6_drop 16 = .ok (.dup, 1) := by decide +kernel
theorem dX6_drop_17 : decode cX6_drop 17 = .ok (.getfield 72, 3) := by decide +kernel
theorem dX6_drop_20 : decode cX6_drop 20 = .ok (.iconst 1, 1) := by decide +kernel
theorem dX6_drop_21 : decode cX6_drop 21 = .ok (.isub, 1) := by decide +kernel
theorem dX6_drop_22 : decode cX6_drop 22 = .ok (.putfield 72, 3) := by decide +kernel
theorem dX6_drop_25 : decode cX6_drop 25 = .ok (.aload_n 0, 1) := by decide +kernel
theorem dX6_drop_26 : decode cX6_drop 26 = .ok (.getfield 72, 3) := by decide +kernel
theorem dX6_drop_29 : decode cX6_drop 29 = .ok (.ireturn, 1) := by decide +kernel
theorem dX6_drainOf_0 : decode cX6_drainOf 0 = .ok (.aload_n 0, 1) := by decide +kernel
theorem dX6_drainOf_1 : decode cX6_drainOf 1 = .ok (.getfield 26, 3) := by decide +kernel
theorem dX6_drainOf_4 : decode cX6_drainOf 4 = .ok (.iload_n 1, 1) := by decide +kernel
theorem dX6_drainOf_5 : decode cX6_drainOf 5 = .ok (.iaload, 1) := by decide +kernel
theorem dX6_drainOf_6 : decode cX6_drainOf 6 = .ok (.aload_n 0, 1) := by decide +kernel
theorem dX6_drainOf_7 : decode cX6_drainOf 7 = .ok (.getfield 29, 3) := by decide +kernel
theorem dX6_drainOf_10 : decode cX6_drainOf 10 = .ok (.iload_n 1, 1) := by decide +kernel
theorem dX6_drainOf_11 : decode cX6_drainOf 11 = .ok (.iaload, 1) := by decide +kernel
theorem dX6_drainOf_12 : decode cX6_drainOf 12 = .ok (.imul, 1) := by decide +kernel
theorem dX6_drainOf_13 : decode cX6_drainOf 13 = .ok (.istore_n 3, 1) := by decide +kernel
theorem dX6_drainOf_14 : decode cX6_drainOf 14 = .ok (.aload_n 0, 1) := by decide +kernel
theorem dX6_drainOf_15 : decode cX6_drainOf 15 = .ok (.getfield 23, 3) := by decide +kernel
theorem dX6_drainOf_18 : decode cX6_drainOf 18 = .ok (.iload_n 1, 1) := by decide +kernel
theorem dX6_drainOf_19 : decode cX6_drainOf 19 = .ok (.iaload, 1) := by decide +kernel
theorem dX6_drainOf_20 : decode cX6_drainOf 20 = .ok (.ifCond .le 47, 3) := by decide +kernel
theorem dX6_drainOf_23 : decode cX6_drainOf 23 = .ok (.iload_n 3, 1) := by decide +kernel
theorem dX6_drainOf_24 : decode cX6_drainOf 24 = .ok (.aload_n 0, 1) := by decide +kernel
theorem dX6_drainOf_25 : decode cX6_drainOf 25 = .ok (.getfield 32, 3) := by decide +kernel
theorem dX6_drainOf_28 : decode cX6_drainOf 28 = .ok (.iload_n 1, 1) := by decide +kernel
theorem dX6_drainOf_29 : decode cX6_drainOf 29 = .ok (.iaload, 1) := by decide +kernel
theorem dX6_drainOf_30 : decode cX6_drainOf 30 = .ok (.iadd, 1) := by decide +kernel
theorem dX6_drainOf_31 : decode cX6_drainOf 31 = .ok (.istore_n 3, 1) := by decide +kernel
theorem dX6_drainOf_32 : decode cX6_drainOf 32 = .ok (.iload_n 3, 1) := by decide +kernel
theorem dX6_drainOf_33 : decode cX6_drainOf 33 = .ok (.aload_n 0, 1) := by decide +kernel
theorem dX6_drainOf_34 : decode cX6_drainOf 34 = .ok (.getfield 32, 3) := by decide +kernel
theorem dX6_drainOf_37 : decode cX6_drainOf 37 = .ok (.iload_n 1, 1) := by decide +kernel
theorem dX6_drainOf_38 : decode cX6_drainOf 38 = .ok (.iaload, 1) := by decide +kernel
theorem dX6_drainOf_39 : decode cX6_drainOf 39 = .ok (.aload_n 0, 1) := by decide +kernel
theorem dX6_drainOf_40 : decode cX6_drainOf 40 = .ok (.getfield 7, 3) := by decide +kernel
theorem dX6_drainOf_43 : decode cX6_drainOf 43 = .ok (.iconst 2, 1) := by decide +kernel
theorem dX6_drainOf_44 : decode cX6_drainOf 44 = .ok (.iaload, 1) := by decide +kernel
theorem dX6_drainOf_45 : decode cX6_drainOf 45 = .ok (.if_icmp .le 19, 3) := by decide +kernel
theorem dX6_drainOf_48 : decode cX6_drainOf 48 = .ok (.aload_n 0, 1) := by decide +kernel
theorem dX6_drainOf_49 : decode cX6_drainOf 49 = .ok (.getfield 32, 3) := by decide +kernel
theorem dX6_drainOf_52 : decode cX6_drainOf 52 = .ok (.iload_n 1, 1) := by decide +kernel
theorem dX6_drainOf_53 : decode cX6_drainOf 53 = .ok (.iaload, 1) := by decide +kernel
theorem dX6_drainOf_54 : decode cX6_drainOf 54 = .ok (.aload_n 0, 1) := by decide +kernel
theorem dX6_drainOf_55 : decode cX6_drainOf 55 = .ok (.getfield 7, 3) := by decide +kernel
theorem dX6_drainOf_58 : decode cX6_drainOf 58 = .ok (.iconst 2, 1) := by decide +kernel
theorem dX6_drainOf_59 : decode cX6_drainOf 59 = .ok (.iaload, 1) := by decide +kernel
theorem dX6_drainOf_60 : decode cX6_drainOf 60 = .ok (.isub, 1) := by decide +kernel
theorem dX6_drainOf_61 : decode cX6_drainOf 61 = .ok (.goto 4, 3) := by decide +kernel
theorem dX6_drainOf_64 : decode cX6_drainOf 64 = .ok (.iconst 0, 1) := by decide +kernel
theorem dX6_drainOf_65 : decode cX6_drainOf 65 = .ok (.iadd, 1) := by decide +kernel
theorem dX6_drainOf_66 : decode cX6_drainOf 66 = .ok (.istore_n 3, 1) := by decide +kernel
theorem dX6_drainOf_67 : decode cX6_drainOf 67 = .ok (.iload_n 3, 1) := by decide +kernel
theorem dX6_drainOf_68 : decode cX6_drainOf 68 = .ok (.iload_n 2, 1) := by decide +kernel
theorem dX6_drainOf_69 : decode cX6_drainOf 69 = .ok (.aload_n 0, 1) := by decide +kernel
theorem dX6_drainOf_70 : decode cX6_drainOf 70 = .ok (.getfield 35, 3) := by decide +kernel
theorem dX6_drainOf_73 : decode cX6_drainOf 73 = .ok (.iload_n 1, 1) := by decide +kernel
theorem dX6_drainOf_74 : decode cX6_drainOf 74 = .ok (.iaload, 1) := by decide +kernel
theorem dX6_drainOf_75 : decode cX6_drainOf 75 = .ok (.if_icmp .ge 7, 3) := by decide +kernel
theorem dX6_drainOf_78 : decode cX6_drainOf 78 = .ok (.iload_n 2, 1) := by decide +kernel
theorem dX6_drainOf_79 : decode cX6_drainOf 79 = .ok (.goto 9, 3) := by decide +kernel
theorem dX6_drainOf_82 : decode cX6_drainOf 82 = .ok (.aload_n 0, 1) := by decide +kernel
theorem dX6_drainOf_83 : decode cX6_drainOf 83 = .ok (.getfield 35, 3) := by decide +kernel
theorem dX6_drainOf_86 : decode cX6_drainOf 86 = .ok (.iload_n 1, 1) := by decide +kernel
theorem dX6_drainOf_87 : decode cX6_drainOf 87 = .ok (.iaload, 1) := by decide +kernel
theorem dX6_drainOf_88 : decode cX6_drainOf 88 = .ok (.imul, 1) := by decide +kernel
theorem dX6_drainOf_89 : decode cX6_drainOf 89 = .ok (.ireturn, 1) := by decide +kernel
set_option maxRecDepth 20000 in
theorem ggX6_drain_X6_isDuty : GoodIn wsX6_drain wsX6_isDuty := goodIn_r _ [11, 12, 13, 14, 10, 15, 24, 25, 26, 27, 28, 29, 30, 31, 32, 33, 34, 35, 36, 37, 38, 39, 40, 41, 42] (by decide +kernel) (by decide +kernel)
set_option maxRecDepth 20000 in
theorem gX6_drain_X6_isDuty : GoodIn wsX6_drain (wsV RX6 75 RX6 yX6_isDuty wsX6_isDuty) := goodIn_app (goodIn_of _ (by decide +kernel)) ggX6_drain_X6_isDuty
set_option maxRecDepth 20000 in
theorem ggX6_drain_X6_in : GoodIn wsX6_drain wsX6_in := goodIn_r _ [15] (by decide +kernel) (by decide +kernel)
set_option maxRecDepth 20000 in
theorem gX6_drain_X6_in : GoodIn wsX6_drain (va_wsS RX6 60 yX6_in wsX6_in) := goodIn_app (goodIn_of _ (by decide +kernel)) ggX6_drain_X6_in
set_option maxRecDepth 20000 in
theorem ggX6_drain_X6_drainOf : GoodIn wsX6_drain wsX6_drainOf := goodIn_r _ [19, 20, 21, 2, 22, 23, 3, 24, 25, 26, 27, 28, 29, 30, 31, 32, 33, 34, 35, 36, 37, 38, 39, 40, 41, 42] (by decide +kernel) (by decide +kernel)
set_option maxRecDepth 20000 in
theorem gX6_drain_X6_drainOf : GoodIn wsX6_drain (wsV RX6 86 RX6 yX6_drainOf wsX6_drainOf) := goodIn_app (goodIn_of _ (by decide +kernel)) ggX6_drain_X6_drainOf
theorem dX6_drain_0 : decode cX6_drain 0 = .ok (.aload_n 0, 1) := by decide +kernel
theorem dX6_drain_1 : decode cX6_drain 1 = .ok (.iconst 0, 1) := by decide +kernel
theorem dX6_drain_2 : decode cX6_drain 2 = .ok (.putfield 57, 3) := by decide +kernel
theorem dX6_drain_5 : decode cX6_drain 5 = .ok (.aload_n 0, 1) := by decide +kernel
theorem dX6_drain_6 : decode cX6_drain 6 = .ok (.iload_n 1, 1) := by decide +kernel
theorem dX6_drain_7 : decode cX6_drain 7 = .ok (.invokevirtual 75, 3) := by decide +kernel
theorem dX6_drain_10 : decode cX6_drain 10 = .ok (.ifCond .eq 32, 3) := by decide +kernel
theorem dX6_drain_13 : decode cX6_drain 13 = .ok (.iload_n 2, 1) := by decide +kernel
theorem dX6_drain_14 : decode cX6_drain 14 = .ok (.iconst 1, 1) := by decide +kernel
theorem dX6_drain_15 : decode cX6_drain 15 = .ok (.iconst 5, 1) := by decide +kernel
theorem dX6_drain_16 : decode cX6_drain 16 = .ok (.invokestatic 60, 3) := by decide +kernel
theorem dX6_drain_19 : decode cX6_drain 19 = .ok (.ifCond .eq 23, 3) := by decide +kernel
theorem dX6_drain_22 : decode cX6_drain 22 = .ok (.aload_n 0, 1) := by decide +kernel
theorem dX6_drain_23 : decode cX6_drain 23 = .ok (.getfield 23, 3) := by decide +kernel
theorem dX6_drain_26 : decode cX6_drain 26 = .ok (.iload_n 1, 1) := by decide +kernel
theorem dX6_drain_27 : decode cX6_drain 27 = .ok (.iaload, 1) := by decide +kernel
theorem dX6_drain_28 : decode cX6_drain 28 = .ok (.iconst 2, 1) := by decide +kernel
theorem dX6_drain_29 : decode cX6_drain 29 = .ok (.if_icmp .ne 15, 3) := by decide +kernel
theorem dX6_drain_32 : decode cX6_drain 32 = .ok (.iload_n 2, 1) := by decide +kernel
theorem dX6_drain_33 : decode cX6_drain 33 = .ok (.aload_n 0, 1) := by decide +kernel
theorem dX6_drain_34 : decode cX6_drain 34 = .ok (.getfield 35, 3) := by decide +kernel
theorem dX6_drain_37 : decode cX6_drain 37 = .ok (.iload_n 1, 1) := by decide +kernel
theorem dX6_drain_38 : decode cX6_drain 38 = .ok (.iaload, 1) := by decide +kernel
theorem dX6_drain_39 : decode cX6_drain 39 = .ok (.if_icmp .le 5, 3) := by decide +kernel
theorem dX6_drain_42 : decode cX6_drain 42 = .ok (.iconst (-1), 1) := by decide +kernel
theorem dX6_drain_43 : decode cX6_drain 43 = .ok (.ireturn, 1) := by decide +kernel
theorem dX6_drain_44 : decode cX6_drain 44 = .ok (.aload_n 0, 1) := by decide +kernel
theorem dX6_drain_45 : decode cX6_drain 45 = .ok (.dup, 1) := by decide +kernel
theorem dX6_drain_46 : decode cX6_drain 46 = .ok (.getfield 78, 3) := by decide +kernel
theorem dX6_drain_49 : decode cX6_drain 49 = .ok (.aload_n 0, 1) := by decide +kernel
theorem dX6_drain_50 : decode cX6_drain 50 = .ok (.getfield 23, 3) := by decide +kernel
theorem dX6_drain_53 : decode cX6_drain 53 = .ok (.iload_n 1, 1) := by decide +kernel
theorem dX6_drain_54 : decode cX6_drain 54 = .ok (.iaload, 1) := by decide +kernel
theorem dX6_drain_55 : decode cX6_drain 55 = .ok (.ifCond .ne 7, 3) := by decide +kernel
theorem dX6_drain_58 : decode cX6_drain 58 = .ok (.lconst 1, 1) := by decide +kernel
theorem dX6_drain_59 : decode cX6_drain 59 = .ok (.goto 22, 3) := by decide +kernel
theorem dX6_drain_62 : decode cX6_drain 62 = .ok (.aload_n 0, 1) := by decide +kernel
theorem dX6_drain_63 : decode cX6_drain 63 = .ok (.getfield 23, 3) := by decide +kernel
theorem dX6_drain_66 : decode cX6_drain 66 = .ok (.iload_n 1, 1) := by decide +kernel
theorem dX6_drain_67 : decode cX6_drain 67 = .ok (.iaload, 1) := by decide +kernel
theorem dX6_drain_68 : decode cX6_drain 68 = .ok (.iconst 1, 1) := by decide +kernel
theorem dX6_drain_69 : decode cX6_drain 69 = .ok (.if_icmp .ne 9, 3) := by decide +kernel
theorem dX6_drain_72 : decode cX6_drain 72 = .ok (.ldc2_w 82, 3) := by decide +kernel
theorem dX6_drain_75 : decode cX6_drain 75 = .ok (.goto 6, 3) := by decide +kernel
theorem dX6_drain_78 : decode cX6_drain 78 = .ok (.ldc2_w 84, 3) := by decide +kernel
theorem dX6_drain_81 : decode cX6_drain 81 = .ok (.ladd, 1) := by decide +kernel
theorem dX6_drain_82 : decode cX6_drain 82 = .ok (.putfield 78, 3) := by decide +kernel
theorem dX6_drain_85 : decode cX6_drain 85 = .ok (.aload_n 0, 1) := by decide +kernel
theorem dX6_drain_86 : decode cX6_drain 86 = .ok (.iload_n 1, 1) := by decide +kernel
theorem dX6_drain_87 : decode cX6_drain 87 = .ok (.iload_n 2, 1) := by decide +kernel
theorem dX6_drain_88 : decode cX6_drain 88 = .ok (.invokevirtual 86, 3) := by decide +kernel
theorem dX6_drain_91 : decode cX6_drain 91 = .ok (.ireturn, 1) := by decide +kernel
theorem dX6_bits_0 : decode cX6_bits 0 = .ok (.iconst 0, 1) := by decide +kernel
theorem dX6_bits_1 : decode cX6_bits 1 = .ok (.istore_n 1, 1) := by decide +kernel
theorem dX6_bits_2 : decode cX6_bits 2 = .ok (.iconst 0, 1) := by decide +kernel
theorem dX6_bits_3 : decode cX6_bits 3 = .ok (.istore_n 2, 1) := by decide +kernel
theorem dX6_bits_4 : decode cX6_bits 4 = .ok (.iload_n 2, 1) := by decide +kernel
theorem dX6_bits_5 : decode cX6_bits 5 = .ok (.aload_n 0, 1) := by decide +kernel
theorem dX6_bits_6 : decode cX6_bits 6 = .ok (.getfield 72, 3) := by decide +kernel
theorem dX6_bits_9 : decode cX6_bits 9 = .ok (.if_icmp .ge 28, 3) := by decide +kernel
theorem dX6_bits_12 : decode cX6_bits 12 = .ok (.iload_n 1, 1) := by decide +kernel
theorem dX6_bits_13 : decode cX6_bits 13 = .ok (.aload_n 0, 1) := by decide +kernel
theorem dX6_bits_14 : decode cX6_bits 14 = .ok (.getfield 41, 3) := by decide +kernel
theorem dX6_bits_17 : decode cX6_bits 17 = .ok (.iload_n 2, 1) := by decide +kernel
theorem dX6_bits_18 : decode cX6_bits 18 = .ok (.baload, 1) := by decide +kernel
theorem dX6_bits_19 : decode cX6_bits 19 = .ok (.ifCond .eq 9, 3) := by decide +kernel
theorem dX6_bits_22 : decode cX6_bits 22 = .ok (.iconst 1, 1) := by decide +kernel
theorem dX6_bits_23 : decode cX6_bits 23 = .ok (.iload_n 2, 1) := by decide +kernel
theorem dX6_bits_24 : decode cX6_bits 24 = .ok (.ishl, 1) := by decide +kernel
theorem dX6_bits_25 : decode cX6_bits 25 = .ok (.goto 4, 3) := by decide +kernel
theorem dX6_bits_28 : decode cX6_bits 28 = .ok (.iconst 0, 1) := by decide +kernel
theorem dX6_bits_29 : decode cX6_bits 29 = .ok (.ior, 1) := by decide +kernel
theorem dX6_bits_30 : decode cX6_bits 30 = .ok (.istore_n 1, 1) := by decide +kernel
theorem dX6_bits_31 : decode cX6_bits 31 = .ok (.iinc 2 1, 3) := by decide +kernel
theorem dX6_bits_34 : decode cX6_bits 34 = .ok (.goto (-30), 3) := by decide +kernel
theorem dX6_bits_37 : decode cX6_bits 37 = .ok (.iload_n 1, 1) := by decide +kernel
theorem dX6_bits_38 : decode cX6_bits 38 = .ok (.ireturn, 1) := by decide +kernel
set_option maxRecDepth 20000 in
theorem ggX6_drains_X6_drainOf : GoodIn wsX6_drains wsX6_drainOf := goodIn_r _ [6, 7, 8, 9, 10, 11, 12, 13, 14, 15, 16, 17, 18, 19, 20, 21, 22, 23, 24, 25, 26, 27, 28, 29, 30, 31] (by decide +kernel) (by decide +kernel)
set_option maxRecDepth 20000 in
theorem gX6_drains_X6_drainOf : GoodIn wsX6_drains (wsV RX6 86 RX6 yX6_drainOf wsX6_drainOf) := goodIn_app (goodIn_of _ (by decide +kernel)) ggX6_drains_X6_drainOf
theorem dX6_drains_0 : decode cX6_drains 0 = .ok (.iconst 0, 1) := by decide +kernel
theorem dX6_drains_1 : decode cX6_drains 1 = .ok (.istore_n 3, 1) := by decide +kernel
theorem dX6_drains_2 : decode cX6_drains 2 = .ok (.iconst 0, 1) := by decide +kernel
theorem dX6_drains_3 : decode cX6_drains 3 = .ok (.istore 4, 2) := by decide +kernel
theorem dX6_drains_5 : decode cX6_drains 5 = .ok (.iload 4, 2) := by decide +kernel
theorem dX6_drains_7 : decode cX6_drains 7 = .ok (.aload_n 0, 1) := by decide +kernel
theorem dX6_drains_8 : decode cX6_drains 8 = .ok (.getfield 72, 3) := by decide +kernel
theorem dX6_drains_11 : decode cX6_drains 11 = .ok (.if_icmp .ge 33, 3) := by decide +kernel
theorem dX6_drains_14 : decode cX6_drains 14 = .ok (.iload_n 3, 1) := by decide +kernel
theorem dX6_drains_15 : decode cX6_drains 15 = .ok (.iload_n 1, 1) := by decide +kernel
theorem dX6_drains_16 : decode cX6_drains 16 = .ok (.iload 4, 2) := by decide +kernel
theorem dX6_drains_18 : decode cX6_drains 18 = .ok (.ishr, 1) := by decide +kernel
theorem dX6_drains_19 : decode cX6_drains 19 = .ok (.iconst 1, 1) := by decide +kernel
theorem dX6_drains_20 : decode cX6_drains 20 = .ok (.iand, 1) := by decide +kernel
theorem dX6_drains_21 : decode cX6_drains 21 = .ok (.iconst 1, 1) := by decide +kernel
theorem dX6_drains_22 : decode cX6_drains 22 = .ok (.if_icmp .ne 13, 3) := by decide +kernel
theorem dX6_drains_25 : decode cX6_drains 25 = .ok (.aload_n 0, 1) := by decide +kernel
theorem dX6_drains_26 : decode cX6_drains 26 = .ok (.iload 4, 2) := by decide +kernel
theorem dX6_drains_28 : decode cX6_drains 28 = .ok (.iload_n 2, 1) := by decide +kernel
theorem dX6_drains_29 : decode cX6_drains 29 = .ok (.invokevirtual 86, 3) := by decide +kernel
theorem dX6_drains_32 : decode cX6_drains 32 = .ok (.goto 4, 3) := by decide +kernel
theorem dX6_drains_35 : decode cX6_drains 35 = .ok (.iconst 0, 1) := by decide +kernel
theorem dX6_drains_36 : decode cX6_drains 36 = .ok (.iadd, 1) := by decide +kernel
theorem dX6_drains_37 : decode cX6_drains 37 = .ok (.istore_n 3, 1) := by decide +kernel
theorem dX6_drains_38 : decode cX6_drains 38 = .ok (.iinc 4 1, 3) := by decide +kernel
theorem dX6_drains_41 : decode cX6_drains 41 = .ok (.goto (-36), 3) := by decide +kernel
theorem dX6_drains_44 : decode cX6_drains 44 = .ok (.iload_n 3, 1) := by decide +kernel
theorem dX6_drains_45 : decode cX6_drains 45 = .ok (.ireturn, 1) := by decide +kernel
theorem dX6_up_0 : decode cX6_up 0 = .ok (.iload_n 0, 1) := by decide +kernel
theorem dX6_up_1 : decode cX6_up 1 = .ok (.iload_n 1, 1) := by decide +kernel
theorem dX6_up_2 : decode cX6_up 2 = .ok (.iadd, 1) := by decide +kernel
theorem dX6_up_3 : decode cX6_up 3 = .ok (.iconst 1, 1) := by decide +kernel
theorem dX6_up_4 : decode cX6_up 4 = .ok (.isub, 1) := by decide +kernel
theorem dX6_up_5 : decode cX6_up 5 = .ok (.iload_n 1, 1) := by decide +kernel
theorem dX6_up_6 : decode cX6_up 6 = .ok (.idiv, 1) := by decide +kernel
theorem dX6_up_7 : decode cX6_up 7 = .ok (.ireturn, 1) := by decide +kernel
set_option maxRecDepth 20000 in
theorem ggX6_behind_X6_up : GoodIn wsX6_behind wsX6_up := goodIn_r _ [4] (by decide +kernel) (by decide +kernel)
set_option maxRecDepth 20000 in
theorem gX6_behind_X6_up : GoodIn wsX6_behind (va_wsS RX6 90 yX6_up wsX6_up) := goodIn_app (goodIn_of _ (by decide +kernel)) ggX6_behind_X6_up
set_option maxRecDepth 20000 in
theorem ggX6_behind_X6_shareOf : GoodIn wsX6_behind wsX6_shareOf := goodIn_r _ [8, 9, 10, 11, 12, 13, 14, 15, 16, 17, 18, 19, 20, 21, 22, 23, 24, 25, 26, 27, 28, 29, 30] (by decide +kernel) (by decide +kernel)
set_option maxRecDepth 20000 in
theorem gX6_behind_X6_shareOf : GoodIn wsX6_behind (wsV RX6 68 RX6 yX6_shareOf wsX6_shareOf) := goodIn_app (goodIn_of _ (by decide +kernel)) ggX6_behind_X6_shareOf
theorem dX6_behind_0 : decode cX6_behind 0 = .ok (.iload_n 1, 1) := by decide +kernel
theorem dX6_behind_1 : decode cX6_behind 1 = .ok (.iload_n 1, 1) := by decide +kernel
theorem dX6_behind_2 : decode cX6_behind 2 = .ok (.iload_n 3, 1) := by decide +kernel
theorem dX6_behind_3 : decode cX6_behind 3 = .ok (.imul, 1) := by decide +kernel
theorem dX6_behind_4 : decode cX6_behind 4 = .ok (.sipush 1000, 3) := by decide +kernel
theorem dX6_behind_7 : decode cX6_behind 7 = .ok (.invokestatic 90, 3) := by decide +kernel
theorem dX6_behind_10 : decode cX6_behind 10 = .ok (.isub, 1) := by decide +kernel
theorem dX6_behind_11 : decode cX6_behind 11 = .ok (.bipush 100, 2) := by decide +kernel
theorem dX6_behind_13 : decode cX6_behind 13 = .ok (.iload 4, 2) := by decide +kernel
theorem dX6_behind_15 : decode cX6_behind 15 = .ok (.imul, 1) := by decide +kernel
theorem dX6_behind_16 : decode cX6_behind 16 = .ok (.aload_n 0, 1) := by decide +kernel
theorem dX6_behind_17 : decode cX6_behind 17 = .ok (.iload_n 2, 1) := by decide +kernel
theorem dX6_behind_18 : decode cX6_behind 18 = .ok (.invokevirtual 68, 3) := by decide +kernel
theorem dX6_behind_21 : decode cX6_behind 21 = .ok (.invokestatic 90, 3) := by decide +kernel
theorem dX6_behind_24 : decode cX6_behind 24 = .ok (.isub, 1) := by decide +kernel
theorem dX6_behind_25 : decode cX6_behind 25 = .ok (.ireturn, 1) := by decide +kernel
set_option maxRecDepth 20000 in
theorem ggX6_lifeOf_X6_drains : GoodIn wsX6_lifeOf wsX6_drains := goodIn_r _ [6, 7, 8, 9, 10, 5, 11, 12, 13, 14, 15, 1, 16, 31, 32, 33, 34, 35, 36, 37, 38, 39, 40, 41, 42, 43, 44, 45, 46, 47, 48, 49] (by decide +kernel) (by decide +kernel)
set_option maxRecDepth 20000 in
theorem gX6_lifeOf_X6_drains : GoodIn wsX6_lifeOf (wsV RX6 93 RX6 yX6_drains wsX6_drains) := goodIn_app (goodIn_of _ (by decide +kernel)) ggX6_lifeOf_X6_drains
set_option maxRecDepth 20000 in
theorem ggX6_lifeOf_X6_behind : GoodIn wsX6_lifeOf wsX6_behind := goodIn_r _ [20, 21, 22, 5, 23, 24, 25, 26, 27, 28, 29, 30, 31, 32, 33, 34, 35, 36, 37, 38, 39, 40, 41, 42, 43, 44, 45, 46, 47, 48, 49] (by decide +kernel) (by decide +kernel)
set_option maxRecDepth 20000 in
theorem gX6_lifeOf_X6_behind : GoodIn wsX6_lifeOf (wsV RX6 96 RX6 yX6_behind wsX6_behind) := goodIn_app (goodIn_of _ (by decide +kernel)) ggX6_lifeOf_X6_behind
theorem dX6_lifeOf_0 : decode cX6_lifeOf 0 = .ok (.aload_n 0, 1) := by decide +kernel
theorem dX6_lifeOf_1 : decode cX6_lifeOf 1 = .ok (.iload_n 1, 1) := by decide +kernel
theorem dX6_lifeOf_2 : decode cX6_lifeOf 2 = .ok (.iload_n 2, 1) := by decide +kernel
theorem dX6_lifeOf_3 : decode cX6_lifeOf 3 = .ok (.invokevirtual 93, 3) := by decide +kernel
theorem dX6_lifeOf_6 : decode cX6_lifeOf 6 = .ok (.istore 4, 2) := by decide +kernel
theorem dX6_lifeOf_8 : decode cX6_lifeOf 8 = .ok (.sipush 1000, 3) := by decide +kernel
theorem dX6_lifeOf_11 : decode cX6_lifeOf 11 = .ok (.aload_n 0, 1) := by decide +kernel
theorem dX6_lifeOf_12 : decode cX6_lifeOf 12 = .ok (.getfield 7, 3) := by decide +kernel
theorem dX6_lifeOf_15 : decode cX6_lifeOf 15 = .ok (.iconst 0, 1) := by decide +kernel
theorem dX6_lifeOf_16 : decode cX6_lifeOf 16 = .ok (.iaload, 1) := by decide +kernel
theorem dX6_lifeOf_17 : decode cX6_lifeOf 17 = .ok (.imul, 1) := by decide +kernel
theorem dX6_lifeOf_18 : decode cX6_lifeOf 18 = .ok (.istore 5, 2) := by decide +kernel
theorem dX6_lifeOf_20 : decode cX6_lifeOf 20 = .ok (.iconst 0, 1) := by decide +kernel
theorem dX6_lifeOf_21 : decode cX6_lifeOf 21 = .ok (.istore 6, 2) := by decide +kernel
theorem dX6_lifeOf_23 : decode cX6_lifeOf 23 = .ok (.iload 6, 2) := by decide +kernel
theorem dX6_lifeOf_25 : decode cX6_lifeOf 25 = .ok (.iload_n 3, 1) := by decide +kernel
theorem dX6_lifeOf_26 : decode cX6_lifeOf 26 = .ok (.if_icmp .ge 44, 3) := by decide +kernel
theorem dX6_lifeOf_29 : decode cX6_lifeOf 29 = .ok (.iload 5, 2) := by decide +kernel
theorem dX6_lifeOf_31 : decode cX6_lifeOf 31 = .ok (.ifCond .lt 39, 3) := by decide +kernel
theorem dX6_lifeOf_34 : decode cX6_lifeOf 34 = .ok (.aload_n 0, 1) := by decide +kernel
theorem dX6_lifeOf_35 : decode cX6_lifeOf 35 = .ok (.iload 5, 2) := by decide +kernel
theorem dX6_lifeOf_37 : decode cX6_lifeOf 37 = .ok (.iload 6, 2) := by decide +kernel
theorem dX6_lifeOf_39 : decode cX6_lifeOf 39 = .ok (.aload_n 0, 1) := by decide +kernel
theorem dX6_lifeOf_40 : decode cX6_lifeOf 40 = .ok (.getfield 7, 3) := by decide +kernel
theorem dX6_lifeOf_43 : decode cX6_lifeOf 43 = .ok (.iconst 1, 1) := by decide +kernel
theorem dX6_lifeOf_44 : decode cX6_lifeOf 44 = .ok (.iaload, 1) := by decide +kernel
theorem dX6_lifeOf_45 : decode cX6_lifeOf 45 = .ok (.iload 4, 2) := by decide +kernel
theorem dX6_lifeOf_47 : decode cX6_lifeOf 47 = .ok (.invokevirtual 96, 3) := by decide +kernel
theorem dX6_lifeOf_50 : decode cX6_lifeOf 50 = .ok (.istore 5, 2) := by decide +kernel
theorem dX6_lifeOf_52 : decode cX6_lifeOf 52 = .ok (.iload 6, 2) := by decide +kernel
theorem dX6_lifeOf_54 : decode cX6_lifeOf 54 = .ok (.iload 5, 2) := by decide +kernel
theorem dX6_lifeOf_56 : decode cX6_lifeOf 56 = .ok (.ifCond .lt 7, 3) := by decide +kernel
theorem dX6_lifeOf_59 : decode cX6_lifeOf 59 = .ok (.iconst 1, 1) := by decide +kernel
theorem dX6_lifeOf_60 : decode cX6_lifeOf 60 = .ok (.goto 4, 3) := by decide +kernel
theorem dX6_lifeOf_63 : decode cX6_lifeOf 63 = .ok (.iconst 0, 1) := by decide +kernel
theorem dX6_lifeOf_64 : decode cX6_lifeOf 64 = .ok (.iadd, 1) := by decide +kernel
theorem dX6_lifeOf_65 : decode cX6_lifeOf 65 = .ok (.istore 6, 2) := by decide +kernel
theorem dX6_lifeOf_67 : decode cX6_lifeOf 67 = .ok (.goto (-44), 3) := by decide +kernel
theorem dX6_lifeOf_70 : decode cX6_lifeOf 70 = .ok (.iload 6, 2) := by decide +kernel
theorem dX6_lifeOf_72 : decode cX6_lifeOf 72 = .ok (.ireturn, 1) := by decide +kernel
set_option maxRecDepth 20000 in
theorem ggX6_isTries_X6_in : GoodIn wsX6_isTries wsX6_in := goodIn_r _ [4] (by decide +kernel) (by decide +kernel)
set_option maxRecDepth 20000 in
theorem gX6_isTries_X6_in : GoodIn wsX6_isTries (va_wsS RX6 60 yX6_in wsX6_in) := goodIn_app (goodIn_of _ (by decide +kernel)) ggX6_isTries_X6_in
theorem dX6_isTries_0 : decode cX6_isTries 0 = .ok (.iload_n 0, 1) := by decide +kernel
theorem dX6_isTries_1 : decode cX6_isTries 1 = .ok (.iconst 1, 1) := by decide +kernel
theorem dX6_isTries_2 : decode cX6_isTries 2 = .ok (.iconst 5, 1) := by decide +kernel
theorem dX6_isTries_3 : decode cX6_isTries 3 = .ok (.invokestatic 60, 3) := by decide +kernel
theorem dX6_isTries_6 : decode cX6_isTries 6 = .ok (.ireturn, 1) := by decide +kernel
set_option maxRecDepth 20000 in
theorem ggX6_life_X6_isTries : GoodIn wsX6_life wsX6_isTries := goodIn_r _ [5, 6, 7, 4, 8] (by decide +kernel) (by decide +kernel)
set_option maxRecDepth 20000 in
theorem gX6_life_X6_isTries : GoodIn wsX6_life (va_wsS RX6 100 yX6_isTries wsX6_isTries) := goodIn_app (goodIn_of _ (by decide +kernel)) ggX6_life_X6_isTries
set_option maxRecDepth 20000 in
theorem ggX6_life_X6_bits : GoodIn wsX6_life wsX6_bits := goodIn_r _ [12, 13, 14, 47, 48, 49, 50, 51, 52, 53, 54, 55, 56, 57, 58, 59, 60, 61, 62, 63, 64, 65] (by decide +kernel) (by decide +kernel)
set_option maxRecDepth 20000 in
theorem gX6_life_X6_bits : GoodIn wsX6_life (wsV RX6 103 RX6 yX6_bits wsX6_bits) := goodIn_app (goodIn_of _ (by decide +kernel)) ggX6_life_X6_bits
set_option maxRecDepth 20000 in
theorem ggX6_life_X6_lifeOf : GoodIn wsX6_life wsX6_lifeOf := goodIn_r _ [18, 19, 20, 21, 22, 4, 23, 13, 24, 25, 26, 27, 28, 29, 30, 31, 32, 33, 34, 35, 36, 37, 38, 39, 40, 41, 42, 43, 44, 45, 46, 47, 48, 49, 50, 51, 52, 53, 54, 55, 56, 57, 58, 59, 60, 61, 62, 63, 64, 65] (by decide +kernel) (by decide +kernel)
set_option maxRecDepth 20000 in
theorem gX6_life_X6_lifeOf : GoodIn wsX6_life (wsV RX6 107 RX6 yX6_lifeOf wsX6_lifeOf) := goodIn_app (goodIn_of _ (by decide +kernel)) ggX6_life_X6_lifeOf
theorem dX6_life_0 : decode cX6_life 0 = .ok (.aload_n 0, 1) := by decide +kernel
theorem dX6_life_1 : decode cX6_life 1 = .ok (.iconst 0, 1) := by decide +kernel
theorem dX6_life_2 : decode cX6_life 2 = .ok (.putfield 57, 3) := by decide +kernel
theorem dX6_life_5 : decode cX6_life 5 = .ok (.iload_n 1, 1) := by decide +kernel
theorem dX6_life_6 : decode cX6_life 6 = .ok (.invokestatic 100, 3) := by decide +kernel
theorem dX6_life_9 : decode cX6_life 9 = .ok (.ifCond .eq 18, 3) := by decide +kernel
theorem dX6_life_12 : decode cX6_life 12 = .ok (.aload_n 0, 1) := by decide +kernel
theorem dX6_life_13 : decode cX6_life 13 = .ok (.aload_n 0, 1) := by decide +kernel
theorem dX6_life_14 : decode cX6_life 14 = .ok (.invokevirtual 103, 3) := by decide +kernel
theorem dX6_life_17 : decode cX6_life 17 = .ok (.iload_n 1, 1) := by decide +kernel
theorem dX6_life_18 : decode cX6_life 18 = .ok (.sipush 400, 3) := by decide +kernel
theorem dX6_life_21 : decode cX6_life 21 = .ok (.invokevirtual 107, 3) := by decide +kernel
theorem dX6_life_24 : decode cX6_life 24 = .ok (.goto 4, 3) := by decide +kernel
theorem dX6_life_27 : decode cX6_life 27 = .ok (.iconst (-1), 1) := by decide +kernel
theorem dX6_life_28 : decode cX6_life 28 = .ok (.ireturn, 1) := by decide +kernel
set_option maxRecDepth 20000 in
theorem ggX6_charge_X6_isDay : GoodIn wsX6_charge wsX6_isDay := goodIn_r _ [6, 7, 8, 5, 9] (by decide +kernel) (by decide +kernel)
set_option maxRecDepth 20000 in
theorem gX6_charge_X6_isDay : GoodIn wsX6_charge (va_wsS RX6 64 yX6_isDay wsX6_isDay) := goodIn_app (goodIn_of _ (by decide +kernel)) ggX6_charge_X6_isDay
set_option maxRecDepth 20000 in
theorem ggX6_charge_X6_isTries : GoodIn wsX6_charge wsX6_isTries := goodIn_r _ [12, 7, 8, 5, 9] (by decide +kernel) (by decide +kernel)
set_option maxRecDepth 20000 in
theorem gX6_charge_X6_isTries : GoodIn wsX6_charge (va_wsS RX6 100 yX6_isTries wsX6_isTries) := goodIn_app (goodIn_of _ (by decide +kernel)) ggX6_charge_X6_isTries
set_option maxRecDepth 20000 in
theorem ggX6_charge_X6_bits : GoodIn wsX6_charge wsX6_bits := goodIn_r _ [16, 17, 18, 46, 47, 48, 49, 50, 51, 52, 53, 54, 55, 56, 57, 58, 59, 60, 61, 62, 63, 64] (by decide +kernel) (by decide +kernel)
set_option maxRecDepth 20000 in
theorem gX6_charge_X6_bits : GoodIn wsX6_charge (wsV RX6 103 RX6 yX6_bits wsX6_bits) := goodIn_app (goodIn_of _ (by decide +kernel)) ggX6_charge_X6_bits
set_option maxRecDepth 20000 in
theorem ggX6_charge_X6_drains : GoodIn wsX6_charge wsX6_drains := goodIn_r _ [22, 17, 23, 24, 25, 5, 26, 27, 28, 29, 30, 2, 31, 46, 47, 48, 49, 50, 51, 52, 53, 54, 55, 56, 57, 58, 59, 60, 61, 62, 63, 64] (by decide +kernel) (by decide +kernel)
set_option maxRecDepth 20000 in
theorem gX6_charge_X6_drains : GoodIn wsX6_charge (wsV RX6 93 RX6 yX6_drains wsX6_drains) := goodIn_app (goodIn_of _ (by decide +kernel)) ggX6_charge_X6_drains
set_option maxRecDepth 20000 in
theorem ggX6_charge_X6_behind : GoodIn wsX6_charge wsX6_behind := goodIn_r _ [35, 36, 37, 5, 38, 39, 40, 41, 42, 43, 44, 45, 46, 47, 48, 49, 50, 51, 52, 53, 54, 55, 56, 57, 58, 59, 60, 61, 62, 63, 64] (by decide +kernel) (by decide +kernel)
set_option maxRecDepth 20000 in
theorem gX6_charge_X6_behind : GoodIn wsX6_charge (wsV RX6 96 RX6 yX6_behind wsX6_behind) := goodIn_app (goodIn_of _ (by decide +kernel)) ggX6_charge_X6_behind
theorem dX6_charge_0 : decode cX6_charge 0 = .ok (.aload_n 0, 1) := by decide +kernel
theorem dX6_charge_1 : decode cX6_charge 1 = .ok (.iconst 0, 1) := by decide +kernel
theorem dX6_charge_2 : decode cX6_charge 2 = .ok (.putfield 57, 3) := by decide +kernel
theorem dX6_charge_5 : decode cX6_charge 5 = .ok (.iload_n 1, 1) := by decide +kernel
theorem dX6_charge_6 : decode cX6_charge 6 = .ok (.invokestatic 64, 3) := by decide +kernel
theorem dX6_charge_9 : decode cX6_charge 9 = .ok (.ifCond .eq 10, 3) := by decide +kernel
theorem dX6_charge_12 : decode cX6_charge 12 = .ok (.iload_n 2, 1) := by decide +kernel
theorem dX6_charge_13 : decode cX6_charge 13 = .ok (.invokestatic 100, 3) := by decide +kernel
theorem dX6_charge_16 : decode cX6_charge 16 = .ok (.ifCond .ne 5, 3) := by decide +kernel
theorem dX6_charge_19 : decode cX6_charge 19 = .ok (.iconst (-1), 1) := by decide +kernel
theorem dX6_charge_20 : decode cX6_charge 20 = .ok (.ireturn, 1) := by decide +kernel
theorem dX6_charge_21 : decode cX6_charge 21 = .ok (.aload_n 0, 1) := by decide +kernel
theorem dX6_charge_22 : decode cX6_charge 22 = .ok (.aload_n 0, 1) := by decide +kernel
theorem dX6_charge_23 : decode cX6_charge 23 = .ok (.invokevirtual 103, 3) := by decide +kernel
theorem dX6_charge_26 : decode cX6_charge 26 = .ok (.iload_n 2, 1) := by decide +kernel
theorem dX6_charge_27 : decode cX6_charge 27 = .ok (.invokevirtual 93, 3) := by decide +kernel
theorem dX6_charge_30 : decode cX6_charge 30 = .ok (.istore_n 3, 1) := by decide +kernel
theorem dX6_charge_31 : decode cX6_charge 31 = .ok (.sipush 1000, 3) := by decide +kernel
theorem dX6_charge_34 : decode cX6_charge 34 = .ok (.aload_n 0, 1) := by decide +kernel
theorem dX6_charge_35 : decode cX6_charge 35 = .ok (.getfield 7, 3) := by decide +kernel
theorem dX6_charge_38 : decode cX6_charge 38 = .ok (.iconst 0, 1) := by decide +kernel
theorem dX6_charge_39 : decode cX6_charge 39 = .ok (.iaload, 1) := by decide +kernel
theorem dX6_charge_40 : decode cX6_charge 40 = .ok (.imul, 1) := by decide +kernel
theorem dX6_charge_41 : decode cX6_charge 41 = .ok (.istore 4, 2) := by decide +kernel
theorem dX6_charge_43 : decode cX6_charge 43 = .ok (.iconst 0, 1) := by decide +kernel
theorem dX6_charge_44 : decode cX6_charge 44 = .ok (.istore 5, 2) := by decide +kernel
theorem dX6_charge_46 : decode cX6_charge 46 = .ok (.iload 5, 2) := by decide +kernel
theorem dX6_charge_48 : decode cX6_charge 48 = .ok (.iload_n 1, 1) := by decide +kernel
theorem dX6_charge_49 : decode cX6_charge 49 = .ok (.if_icmp .gt 31, 3) := by decide +kernel
theorem dX6_charge_52 : decode cX6_charge 52 = .ok (.iload 4, 2) := by decide +kernel
theorem dX6_charge_54 : decode cX6_charge 54 = .ok (.ifCond .lt 26, 3) := by decide +kernel
theorem dX6_charge_57 : decode cX6_charge 57 = .ok (.aload_n 0, 1) := by decide +kernel
theorem dX6_charge_58 : decode cX6_charge 58 = .ok (.iload 4, 2) := by decide +kernel
theorem dX6_charge_60 : decode cX6_charge 60 = .ok (.iload 5, 2) := by decide +kernel
theorem dX6_charge_62 : decode cX6_charge 62 = .ok (.aload_n 0, 1) := by decide +kernel
theorem dX6_charge_63 : decode cX6_charge 63 = .ok (.getfield 7, 3) := by decide +kernel
theorem dX6_charge_66 : decode cX6_charge 66 = .ok (.iconst 1, 1) := by decide +kernel
theorem dX6_charge_67 : decode cX6_charge 67 = .ok (.iaload, 1) := by decide +kernel
theorem dX6_charge_68 : decode cX6_charge 68 = .ok (.iload_n 3, 1) := by decide +kernel
theorem dX6_charge_69 : decode cX6_charge 69 = .ok (.invokevirtual 96, 3) := by decide +kernel
theorem dX6_charge_72 : decode cX6_charge 72 = .ok (.istore 4, 2) := by decide +kernel
theorem dX6_charge_74 : decode cX6_charge 74 = .ok (.iinc 5 1, 3) := by decide +kernel
theorem dX6_charge_77 : decode cX6_charge 77 = .ok (.goto (-31), 3) := by decide +kernel
theorem dX6_charge_80 : decode cX6_charge 80 = .ok (.iload 4, 2) := by decide +kernel
theorem dX6_charge_82 : decode cX6_charge 82 = .ok (.ifCond .ge 7, 3) := by decide +kernel
theorem dX6_charge_85 : decode cX6_charge 85 = .ok (.iconst 0, 1) := by decide +kernel
theorem dX6_charge_86 : decode cX6_charge 86 = .ok (.goto 5, 3) := by decide +kernel
theorem dX6_charge_89 : decode cX6_charge 89 = .ok (.iload 4, 2) := by decide +kernel
theorem dX6_charge_91 : decode cX6_charge 91 = .ok (.ireturn, 1) := by decide +kernel
set_option maxRecDepth 20000 in
theorem ggX6_price_X6_isDuty : GoodIn wsX6_price wsX6_isDuty := goodIn_r _ [6, 7, 8, 9, 5, 10, 48, 49, 50, 51, 52, 53, 54, 55, 56, 57, 58, 59, 60, 61, 62, 63, 64, 65, 66] (by decide +kernel) (by decide +kernel)
set_option maxRecDepth 20000 in
theorem gX6_price_X6_isDuty : GoodIn wsX6_price (wsV RX6 75 RX6 yX6_isDuty wsX6_isDuty) := goodIn_app (goodIn_of _ (by decide +kernel)) ggX6_price_X6_isDuty
set_option maxRecDepth 20000 in
theorem ggX6_price_X6_bits : GoodIn wsX6_price wsX6_bits := goodIn_r _ [14, 7, 15, 48, 49, 50, 51, 52, 53, 54, 55, 56, 57, 58, 59, 60, 61, 62, 63, 64, 65, 66] (by decide +kernel) (by decide +kernel)
set_option maxRecDepth 20000 in
theorem gX6_price_X6_bits : GoodIn wsX6_price (wsV RX6 103 RX6 yX6_bits wsX6_bits) := goodIn_app (goodIn_of _ (by decide +kernel)) ggX6_price_X6_bits
set_option maxRecDepth 20000 in
theorem ggX6_price_X6_lifeOf : GoodIn wsX6_price wsX6_lifeOf := goodIn_r _ [19, 20, 21, 22, 23, 5, 24, 7, 25, 26, 27, 28, 29, 30, 31, 32, 33, 34, 35, 36, 37, 38, 39, 40, 41, 42, 43, 44, 45, 46, 47, 48, 49, 50, 51, 52, 53, 54, 55, 56, 57, 58, 59, 60, 61, 62, 63, 64, 65, 66] (by decide +kernel) (by decide +kernel)
set_option maxRecDepth 20000 in
theorem gX6_price_X6_lifeOf : GoodIn wsX6_price (wsV RX6 107 RX6 yX6_lifeOf wsX6_lifeOf) := goodIn_app (goodIn_of _ (by decide +kernel)) ggX6_price_X6_lifeOf
theorem dX6_price_0 : decode cX6_price 0 = .ok (.aload_n 0, 1) := by decide +kernel
theorem dX6_price_1 : decode cX6_price 1 = .ok (.iconst 0, 1) := by decide +kernel
theorem dX6_price_2 : decode cX6_price 2 = .ok (.putfield 57, 3) := by decide +kernel
theorem dX6_price_5 : decode cX6_price 5 = .ok (.aload_n 0, 1) := by decide +kernel
theorem dX6_price_6 : decode cX6_price 6 = .ok (.iload_n 1, 1) := by decide +kernel
theorem dX6_price_7 : decode cX6_price 7 = .ok (.invokevirtual 75, 3) := by decide +kernel
theorem dX6_price_10 : decode cX6_price 10 = .ok (.ifCond .ne 5, 3) := by decide +kernel
theorem dX6_price_13 : decode cX6_price 13 = .ok (.iconst (-1), 1) := by decide +kernel
theorem dX6_price_14 : decode cX6_price 14 = .ok (.ireturn, 1) := by decide +kernel
theorem dX6_price_15 : decode cX6_price 15 = .ok (.aload_n 0, 1) := by decide +kernel
theorem dX6_price_16 : decode cX6_price 16 = .ok (.invokevirtual 103, 3) := by decide +kernel
theorem dX6_price_19 : decode cX6_price 19 = .ok (.iconst 1, 1) := by decide +kernel
theorem dX6_price_20 : decode cX6_price 20 = .ok (.iload_n 1, 1) := by decide +kernel
theorem dX6_price_21 : decode cX6_price 21 = .ok (.ishl, 1) := by decide +kernel
theorem dX6_price_22 : decode cX6_price 22 = .ok (.ior, 1) := by decide +kernel
theorem dX6_price_23 : decode cX6_price 23 = .ok (.istore_n 2, 1) := by decide +kernel
theorem dX6_price_24 : decode cX6_price 24 = .ok (.aload_n 0, 1) := by decide +kernel
theorem dX6_price_25 : decode cX6_price 25 = .ok (.iload_n 2, 1) := by decide +kernel
theorem dX6_price_26 : decode cX6_price 26 = .ok (.iconst 1, 1) := by decide +kernel
theorem dX6_price_27 : decode cX6_price 27 = .ok (.iload_n 1, 1) := by decide +kernel
theorem dX6_price_28 : decode cX6_price 28 = .ok (.ishl, 1) := by decide +kernel
theorem dX6_price_29 : decode cX6_price 29 = .ok (.isub, 1) := by decide +kernel
theorem dX6_price_30 : decode cX6_price 30 = .ok (.iconst 5, 1) := by decide +kernel
theorem dX6_price_31 : decode cX6_price 31 = .ok (.sipush 400, 3) := by decide +kernel
theorem dX6_price_34 : decode cX6_price 34 = .ok (.invokevirtual 107, 3) := by decide +kernel
theorem dX6_price_37 : decode cX6_price 37 = .ok (.aload_n 0, 1) := by decide +kernel
theorem dX6_price_38 : decode cX6_price 38 = .ok (.iload_n 2, 1) := by decide +kernel
theorem dX6_price_39 : decode cX6_price 39 = .ok (.iconst 5, 1) := by decide +kernel
theorem dX6_price_40 : decode cX6_price 40 = .ok (.sipush 400, 3) := by decide +kernel
theorem dX6_price_43 : decode cX6_price 43 = .ok (.invokevirtual 107, 3) := by decide +kernel
theorem dX6_price_46 : decode cX6_price 46 = .ok (.isub, 1) := by decide +kernel
theorem dX6_price_47 : decode cX6_price 47 = .ok (.ireturn, 1) := by decide +kernel
theorem dX6_worthOf_0 : decode cX6_worthOf 0 = .ok (.iconst 0, 1) := by decide +kernel
theorem dX6_worthOf_1 : decode cX6_worthOf 1 = .ok (.istore_n 2, 1) := by decide +kernel
theorem dX6_worthOf_2 : decode cX6_worthOf 2 = .ok (.iconst 0, 1) := by decide +kernel
theorem dX6_worthOf_3 : decode cX6_worthOf 3 = .ok (.istore_n 3, 1) := by decide +kernel
theorem dX6_worthOf_4 : decode cX6_worthOf 4 = .ok (.iload_n 3, 1) := by decide +kernel
theorem dX6_worthOf_5 : decode cX6_worthOf 5 = .ok (.aload_n 0, 1) := by decide +kernel
theorem dX6_worthOf_6 : decode cX6_worthOf 6 = .ok (.getfield 72, 3) := by decide +kernel
theorem dX6_worthOf_9 : decode cX6_worthOf 9 = .ok (.if_icmp .ge 31, 3) := by decide +kernel
theorem dX6_worthOf_12 : decode cX6_worthOf 12 = .ok (.iload_n 2, 1) := by decide +kernel
theorem dX6_worthOf_13 : decode cX6_worthOf 13 = .ok (.iload_n 1, 1) := by decide +kernel
theorem dX6_worthOf_14 : decode cX6_worthOf 14 = .ok (.iload_n 3, 1) := by decide +kernel
theorem dX6_worthOf_15 : decode cX6_worthOf 15 = .ok (.ishr, 1) := by decide +kernel
theorem dX6_worthOf_16 : decode cX6_worthOf 16 = .ok (.iconst 1, 1) := by decide +kernel
theorem dX6_worthOf_17 : decode cX6_worthOf 17 = .ok (.iand, 1) := by decide +kernel
theorem dX6_worthOf_18 : decode cX6_worthOf 18 = .ok (.iconst 1, 1) := by decide +kernel
theorem dX6_worthOf_19 : decode cX6_worthOf 19 = .ok (.if_icmp .ne 12, 3) := by decide +kernel
theorem dX6_worthOf_22 : decode cX6_worthOf 22 = .ok (.aload_n 0, 1) := by decide +kernel
theorem dX6_worthOf_23 : decode cX6_worthOf 23 = .ok (.getfield 38, 3) := by decide +kernel
theorem dX6_worthOf_26 : decode cX6_worthOf 26 = .ok (.iload_n 3, 1) := by decide +kernel
theorem dX6_worthOf_27 : decode cX6_worthOf 27 = .ok (.iaload, 1) := by decide +kernel
theorem dX6_worthOf_28 : decode cX6_worthOf 28 = .ok (.goto 4, 3) := by decide +kernel
theorem dX6_worthOf_31 : decode cX6_worthOf 31 = .ok (.iconst 0, 1) := by decide +kernel
theorem dX6_worthOf_32 : decode cX6_worthOf 32 = .ok (.iadd, 1) := by decide +kernel
theorem dX6_worthOf_33 : decode cX6_worthOf 33 = .ok (.istore_n 2, 1) := by decide +kernel
theorem dX6_worthOf_34 : decode cX6_worthOf 34 = .ok (.iinc 3 1, 3) := by decide +kernel
theorem dX6_worthOf_37 : decode cX6_worthOf 37 = .ok (.goto (-33), 3) := by decide +kernel
theorem dX6_worthOf_40 : decode cX6_worthOf 40 = .ok (.iload_n 2, 1) := by decide +kernel
theorem dX6_worthOf_41 : decode cX6_worthOf 41 = .ok (.ireturn, 1) := by decide +kernel
set_option maxRecDepth 20000 in
theorem ggX6_plan_X6_in : GoodIn wsX6_plan wsX6_in := goodIn_r _ [6] (by decide +kernel) (by decide +kernel)
set_option maxRecDepth 20000 in
theorem gX6_plan_X6_in : GoodIn wsX6_plan (va_wsS RX6 60 yX6_in wsX6_in) := goodIn_app (goodIn_of _ (by decide +kernel)) ggX6_plan_X6_in
set_option maxRecDepth 20000 in
theorem ggX6_plan_X6_worthOf : GoodIn wsX6_plan wsX6_worthOf := goodIn_r _ [10, 2, 11, 44, 45, 46, 47, 48, 49, 50, 51, 52, 53, 54, 55, 56, 57, 58, 59, 60, 61, 62] (by decide +kernel) (by decide +kernel)
set_option maxRecDepth 20000 in
theorem gX6_plan_X6_worthOf : GoodIn wsX6_plan (wsV RX6 111 RX6 yX6_worthOf wsX6_worthOf) := goodIn_app (goodIn_of _ (by decide +kernel)) ggX6_plan_X6_worthOf
set_option maxRecDepth 20000 in
theorem ggX6_plan_X6_lifeOf : GoodIn wsX6_plan wsX6_lifeOf := goodIn_r _ [15, 16, 17, 18, 19, 5, 20, 2, 21, 22, 23, 24, 25, 26, 27, 28, 29, 30, 31, 32, 33, 34, 35, 36, 37, 38, 39, 40, 41, 42, 43, 44, 45, 46, 47, 48, 49, 50, 51, 52, 53, 54, 55, 56, 57, 58, 59, 60, 61, 62] (by decide +kernel) (by decide +kernel)
set_option maxRecDepth 20000 in
theorem gX6_plan_X6_lifeOf : GoodIn wsX6_plan (wsV RX6 107 RX6 yX6_lifeOf wsX6_lifeOf) := goodIn_app (goodIn_of _ (by decide +kernel)) ggX6_plan_X6_lifeOf
theorem dX6_plan_0 : decode cX6_plan 0 = .ok (.aload_n 0, 1) := by decide +kernel
theorem dX6_plan_1 : decode cX6_plan 1 = .ok (.iconst 0, 1) := by decide +kernel
theorem dX6_plan_2 : decode cX6_plan 2 = .ok (.putfield 57, 3) := by decide +kernel
theorem dX6_plan_5 : decode cX6_plan 5 = .ok (.iload_n 1, 1) := by decide +kernel
theorem dX6_plan_6 : decode cX6_plan 6 = .ok (.iconst 1, 1) := by decide +kernel
theorem dX6_plan_7 : decode cX6_plan 7 = .ok (.sipush 400, 3) := by decide +kernel
theorem dX6_plan_10 : decode cX6_plan 10 = .ok (.invokestatic 60, 3) := by decide +kernel
theorem dX6_plan_13 : decode cX6_plan 13 = .ok (.ifCond .eq 12, 3) := by decide +kernel
theorem dX6_plan_16 : decode cX6_plan 16 = .ok (.iload_n 2, 1) := by decide +kernel
theorem dX6_plan_17 : decode cX6_plan 17 = .ok (.iconst 0, 1) := by decide +kernel
theorem dX6_plan_18 : decode cX6_plan 18 = .ok (.iconst 2, 1) := by decide +kernel
theorem dX6_plan_19 : decode cX6_plan 19 = .ok (.invokestatic 60, 3) := by decide +kernel
theorem dX6_plan_22 : decode cX6_plan 22 = .ok (.ifCond .ne 5, 3) := by decide +kernel
theorem dX6_plan_25 : decode cX6_plan 25 = .ok (.iconst (-1), 1) := by decide +kernel
theorem dX6_plan_26 : decode cX6_plan 26 = .ok (.ireturn, 1) := by decide +kernel
theorem dX6_plan_27 : decode cX6_plan 27 = .ok (.bipush (-9), 2) := by decide +kernel
theorem dX6_plan_29 : decode cX6_plan 29 = .ok (.istore_n 3, 1) := by decide +kernel
theorem dX6_plan_30 : decode cX6_plan 30 = .ok (.iconst 0, 1) := by decide +kernel
theorem dX6_plan_31 : decode cX6_plan 31 = .ok (.istore 4, 2) := by decide +kernel
theorem dX6_plan_33 : decode cX6_plan 33 = .ok (.iload 4, 2) := by decide +kernel
theorem dX6_plan_35 : decode cX6_plan 35 = .ok (.iconst 1, 1) := by decide +kernel
theorem dX6_plan_36 : decode cX6_plan 36 = .ok (.aload_n 0, 1) := by decide +kernel
theorem dX6_plan_37 : decode cX6_plan 37 = .ok (.getfield 72, 3) := by decide +kernel
theorem dX6_plan_40 : decode cX6_plan 40 = .ok (.ishl, 1) := by decide +kernel
theorem dX6_plan_41 : decode cX6_plan 41 = .ok (.if_icmp .ge 44, 3) := by decide +kernel
theorem dX6_plan_44 : decode cX6_plan 44 = .ok (.iload_n 3, 1) := by decide +kernel
theorem dX6_plan_45 : decode cX6_plan 45 = .ok (.bipush (-9), 2) := by decide +kernel
theorem dX6_plan_47 : decode cX6_plan 47 = .ok (.if_icmp .eq 17, 3) := by decide +kernel
theorem dX6_plan_50 : decode cX6_plan 50 = .ok (.aload_n 0, 1) := by decide +kernel
theorem dX6_plan_51 : decode cX6_plan 51 = .ok (.iload 4, 2) := by decide +kernel
theorem dX6_plan_53 : decode cX6_plan 53 = .ok (.invokevirtual 111, 3) := by decide +kernel
theorem dX6_plan_56 : decode cX6_plan 56 = .ok (.aload_n 0, 1) := by decide +kernel
theorem dX6_plan_57 : decode cX6_plan 57 = .ok (.iload_n 3, 1) := by decide +kernel
theorem dX6_plan_58 : decode cX6_plan 58 = .ok (.invokevirtual 111, 3) := by decide +kernel
theorem dX6_plan_61 : decode cX6_plan 61 = .ok (.if_icmp .le 18, 3) := by decide +kernel
theorem dX6_plan_64 : decode cX6_plan 64 = .ok (.aload_n 0, 1) := by decide +kernel
theorem dX6_plan_65 : decode cX6_plan 65 = .ok (.iload 4, 2) := by decide +kernel
theorem dX6_plan_67 : decode cX6_plan 67 = .ok (.iconst 5, 1) := by decide +kernel
theorem dX6_plan_68 : decode cX6_plan 68 = .ok (.iload_n 1, 1) := by decide +kernel
theorem dX6_plan_69 : decode cX6_plan 69 = .ok (.invokevirtual 107, 3) := by decide +kernel
theorem dX6_plan_72 : decode cX6_plan 72 = .ok (.iload_n 1, 1) := by decide +kernel
theorem dX6_plan_73 : decode cX6_plan 73 = .ok (.if_icmp .ne 6, 3) := by decide +kernel
theorem dX6_plan_76 : decode cX6_plan 76 = .ok (.iload 4, 2) := by decide +kernel
theorem dX6_plan_78 : decode cX6_plan 78 = .ok (.istore_n 3, 1) := by decide +kernel
theorem dX6_plan_79 : decode cX6_plan 79 = .ok (.iinc 4 1, 3) := by decide +kernel
theorem dX6_plan_82 : decode cX6_plan 82 = .ok (.goto (-49), 3) := by decide +kernel
theorem dX6_plan_85 : decode cX6_plan 85 = .ok (.iload_n 3, 1) := by decide +kernel
theorem dX6_plan_86 : decode cX6_plan 86 = .ok (.bipush (-9), 2) := by decide +kernel
theorem dX6_plan_88 : decode cX6_plan 88 = .ok (.if_icmp .ne 8, 3) := by decide +kernel
theorem dX6_plan_91 : decode cX6_plan 91 = .ok (.bipush (-9), 2) := by decide +kernel
theorem dX6_plan_93 : decode cX6_plan 93 = .ok (.goto 33, 3) := by decide +kernel
theorem dX6_plan_96 : decode cX6_plan 96 = .ok (.iload_n 2, 1) := by decide +kernel
theorem dX6_plan_97 : decode cX6_plan 97 = .ok (.ifCond .ne 7, 3) := by decide +kernel
theorem dX6_plan_100 : decode cX6_plan 100 = .ok (.iload_n 3, 1) := by decide +kernel
theorem dX6_plan_101 : decode cX6_plan 101 = .ok (.goto 25, 3) := by decide +kernel
theorem dX6_plan_104 : decode cX6_plan 104 = .ok (.iload_n 2, 1) := by decide +kernel
theorem dX6_plan_105 : decode cX6_plan 105 = .ok (.iconst 1, 1) := by decide +kernel
theorem dX6_plan_106 : decode cX6_plan 106 = .ok (.if_icmp .ne 11, 3) := by decide +kernel
theorem dX6_plan_109 : decode cX6_plan 109 = .ok (.aload_n 0, 1) := by decide +kernel
theorem dX6_plan_110 : decode cX6_plan 110 = .ok (.iload_n 3, 1) := by decide +kernel
theorem dX6_plan_111 : decode cX6_plan 111 = .ok (.invokevirtual 111, 3) := by decide +kernel
theorem dX6_plan_114 : decode cX6_plan 114 = .ok (.goto 12, 3) := by decide +kernel
theorem dX6_plan_117 : decode cX6_plan 117 = .ok (.aload_n 0, 1) := by decide +kernel
theorem dX6_plan_118 : decode cX6_plan 118 = .ok (.iload_n 3, 1) := by decide +kernel
theorem dX6_plan_119 : decode cX6_plan 119 = .ok (.iconst 5, 1) := by decide +kernel
theorem dX6_plan_120 : decode cX6_plan 120 = .ok (.sipush 400, 3) := by decide +kernel
theorem dX6_plan_123 : decode cX6_plan 123 = .ok (.invokevirtual 107, 3) := by decide +kernel
theorem dX6_plan_126 : decode cX6_plan 126 = .ok (.ireturn, 1) := by decide +kernel
set_option maxRecDepth 20000 in
theorem ggX6_sign_X6_isDay : GoodIn wsX6_sign wsX6_isDay := goodIn_r _ [8, 9, 10, 7, 11] (by decide +kernel) (by decide +kernel)
set_option maxRecDepth 20000 in
theorem gX6_sign_X6_isDay : GoodIn wsX6_sign (va_wsS RX6 64 yX6_isDay wsX6_isDay) := goodIn_app (goodIn_of _ (by decide +kernel)) ggX6_sign_X6_isDay
set_option maxRecDepth 20000 in
theorem ggX6_sign_X6_in : GoodIn wsX6_sign wsX6_in := goodIn_r _ [11] (by decide +kernel) (by decide +kernel)
set_option maxRecDepth 20000 in
theorem gX6_sign_X6_in : GoodIn wsX6_sign (va_wsS RX6 60 yX6_in wsX6_in) := goodIn_app (goodIn_of _ (by decide +kernel)) ggX6_sign_X6_in
theorem dX6_sign_0 : decode cX6_sign 0 = .ok (.aload_n 0, 1) := by decide +kernel
theorem dX6_sign_1 : decode cX6_sign 1 = .ok (.iconst 0, 1) := by decide +kernel
theorem dX6_sign_2 : decode cX6_sign 2 = .ok (.putfield 57, 3) := by decide +kernel
theorem dX6_sign_5 : decode cX6_sign 5 = .ok (.iload_n 1, 1) := by decide +kernel
theorem dX6_sign_6 : decode cX6_sign 6 = .ok (.invokestatic 64, 3) := by decide +kernel
theorem dX6_sign_9 : decode cX6_sign 9 = .ok (.ifCond .eq 13, 3) := by decide +kernel
theorem dX6_sign_12 : decode cX6_sign 12 = .ok (.iload_n 2, 1) := by decide +kernel
theorem dX6_sign_13 : decode cX6_sign 13 = .ok (.iconst 0, 1) := by decide +kernel
theorem dX6_sign_14 : decode cX6_sign 14 = .ok (.bipush 9, 2) := by decide +kernel
theorem dX6_sign_16 : decode cX6_sign 16 = .ok (.invokestatic 60, 3) := by decide +kernel
theorem dX6_sign_19 : decode cX6_sign 19 = .ok (.ifCond .ne 5, 3) := by decide +kernel
theorem dX6_sign_22 : decode cX6_sign 22 = .ok (.iconst (-1), 1) := by decide +kernel
theorem dX6_sign_23 : decode cX6_sign 23 = .ok (.ireturn, 1) := by decide +kernel
theorem dX6_sign_24 : decode cX6_sign 24 = .ok (.aload_n 0, 1) := by decide +kernel
theorem dX6_sign_25 : decode cX6_sign 25 = .ok (.getfield 114, 3) := by decide +kernel
theorem dX6_sign_28 : decode cX6_sign 28 = .ok (.bipush 12, 2) := by decide +kernel
theorem dX6_sign_30 : decode cX6_sign 30 = .ok (.if_icmp .ne 6, 3) := by decide +kernel
theorem dX6_sign_33 : decode cX6_sign 33 = .ok (.bipush (-3), 2) := by decide +kernel
theorem dX6_sign_35 : decode cX6_sign 35 = .ok (.ireturn, 1) := by decide +kernel
theorem dX6_sign_36 : decode cX6_sign 36 = .ok (.aload_n 0, 1) := by decide +kernel
theorem dX6_sign_37 : decode cX6_sign 37 = .ok (.getfield 45, 3) := by decide +kernel
theorem dX6_sign_40 : decode cX6_sign 40 = .ok (.aload_n 0, 1) := by decide +kernel
theorem dX6_sign_41 : decode cX6_sign 41 = .ok (.getfield 114, 3) := by decide +kernel
theorem dX6_sign_44 : decode cX6_sign 44 = .ok (.iload_n 1, 1) := by decide +kernel
theorem dX6_sign_45 : decode cX6_sign 45 = .ok (.iastore, 1) := by decide +kernel
theorem dX6_sign_46 : decode cX6_sign 46 = .ok (.aload_n 0, 1) := by decide +kernel
theorem dX6_sign_47 : decode cX6_sign 47 = .ok (.getfield 48, 3) := by decide +kernel
theorem dX6_sign_50 : decode cX6_sign 50 = .ok (.aload_n 0, 1) := by decide +kernel
theorem dX6_sign_51 : decode cX6_sign 51 = .ok (.getfield 114, 3) := by decide +kernel
theorem dX6_sign_54 : decode cX6_sign 54 = .ok (.iload_n 2, 1) := by decide +kernel
theorem dX6_sign_55 : decode cX6_sign 55 = .ok (.iastore, 1) := by decide +kernel
theorem dX6_sign_56 : decode cX6_sign 56 = .ok (.aload_n 0, 1) := by decide +kernel
theorem dX6_sign_57 : decode cX6_sign 57 = .ok (.dup, 1) := by decide +kernel
theorem dX6_sign_58 : decode cX6_sign 58 = .ok (.getfield 114, 3) := by decide +kernel
theorem dX6_sign_61 : decode cX6_sign 61 = .ok (.iconst 1, 1) := by decide +kernel
theorem dX6_sign_62 : decode cX6_sign 62 = .ok (.iadd, 1) := by decide +kernel
theorem dX6_sign_63 : decode cX6_sign 63 = .ok (.putfield 114, 3) := by decide +kernel
theorem dX6_sign_66 : decode cX6_sign 66 = .ok (.aload_n 0, 1) := by decide +kernel
theorem dX6_sign_67 : decode cX6_sign 67 = .ok (.getfield 114, 3) := by decide +kernel
theorem dX6_sign_70 : decode cX6_sign 70 = .ok (.ireturn, 1) := by decide +kernel
theorem dX6_forget_0 : decode cX6_forget 0 = .ok (.aload_n 0, 1) := by decide +kernel
theorem dX6_forget_1 : decode cX6_forget 1 = .ok (.iconst 0, 1) := by decide +kernel
theorem dX6_forget_2 : decode cX6_forget 2 = .ok (.putfield 57, 3) := by decide +kernel
theorem dX6_forget_5 : decode cX6_forget 5 = .ok (.aload_n 0, 1) := by decide +kernel
theorem dX6_forget_6 : decode cX6_forget 6 = .ok (.getfield 114, 3) := by decide +kernel
theorem dX6_forget_9 : decode cX6_forget 9 = .ok (.ifCond .ne 6, 3) := by decide +kernel
theorem dX6_forget_12 : decode cX6_forget 12 = .ok (.bipush (-2), 2) := by decide +kernel
theorem dX6_forget_14 : decode cX6_forget 14 = .ok (.ireturn, 1) := by decide +kernel
theorem dX6_forget_15 : decode cX6_forget 15 = .ok (.aload_n 0, 1) := by decide +kernel
theorem dX6_forget_16 : decode cX6_forget 16 = .ok (.dup, 1) := by decide +kernel
theorem dX6_forget_17 : decode cX6_forget 17 = .ok (.getfield 114, 3) := by decide +kernel
theorem dX6_forget_20 : decode cX6_forget 20 = .ok (.iconst 1, 1) := by decide +kernel
theorem dX6_forget_21 : decode cX6_forget 21 = .ok (.isub, 1) := by decide +kernel
theorem dX6_forget_22 : decode cX6_forget 22 = .ok (.putfield 114, 3) := by decide +kernel
theorem dX6_forget_25 : decode cX6_forget 25 = .ok (.aload_n 0, 1) := by decide +kernel
theorem dX6_forget_26 : decode cX6_forget 26 = .ok (.getfield 114, 3) := by decide +kernel
theorem dX6_forget_29 : decode cX6_forget 29 = .ok (.ireturn, 1) := by decide +kernel
set_option maxRecDepth 20000 in
theorem ggX6_empties_X6_bits : GoodIn wsX6_empties wsX6_bits := goodIn_r _ [7, 8, 9, 37, 38, 39, 40, 41, 42, 43, 44, 45, 46, 47, 48, 49, 50, 51, 52, 53, 54, 55] (by decide +kernel) (by decide +kernel)
set_option maxRecDepth 20000 in
theorem gX6_empties_X6_bits : GoodIn wsX6_empties (wsV RX6 103 RX6 yX6_bits wsX6_bits) := goodIn_app (goodIn_of _ (by decide +kernel)) ggX6_empties_X6_bits
set_option maxRecDepth 20000 in
theorem ggX6_empties_X6_drains : GoodIn wsX6_empties wsX6_drains := goodIn_r _ [13, 8, 14, 15, 16, 6, 17, 18, 19, 20, 21, 1, 22, 37, 38, 39, 40, 41, 42, 43, 44, 45, 46, 47, 48, 49, 50, 51, 52, 53, 54, 55] (by decide +kernel) (by decide +kernel)
set_option maxRecDepth 20000 in
theorem gX6_empties_X6_drains : GoodIn wsX6_empties (wsV RX6 93 RX6 yX6_drains wsX6_drains) := goodIn_app (goodIn_of _ (by decide +kernel)) ggX6_empties_X6_drains
set_option maxRecDepth 20000 in
theorem ggX6_empties_X6_behind : GoodIn wsX6_empties wsX6_behind := goodIn_r _ [26, 27, 28, 6, 29, 30, 31, 32, 33, 34, 35, 36, 37, 38, 39, 40, 41, 42, 43, 44, 45, 46, 47, 48, 49, 50, 51, 52, 53, 54, 55] (by decide +kernel) (by decide +kernel)
set_option maxRecDepth 20000 in
theorem gX6_empties_X6_behind : GoodIn wsX6_empties (wsV RX6 96 RX6 yX6_behind wsX6_behind) := goodIn_app (goodIn_of _ (by decide +kernel)) ggX6_empties_X6_behind
theorem dX6_empties_0 : decode cX6_empties 0 = .ok (.aload_n 0, 1) := by decide +kernel
theorem dX6_empties_1 : decode cX6_empties 1 = .ok (.getfield 7, 3) := by decide +kernel
theorem dX6_empties_4 : decode cX6_empties 4 = .ok (.iconst 1, 1) := by decide +kernel
theorem dX6_empties_5 : decode cX6_empties 5 = .ok (.iaload, 1) := by decide +kernel
theorem dX6_empties_6 : decode cX6_empties 6 = .ok (.iload_n 1, 1) := by decide +kernel
theorem dX6_empties_7 : decode cX6_empties 7 = .ok (.bipush 25, 2) := by decide +kernel
theorem dX6_empties_9 : decode cX6_empties 9 = .ok (.idiv, 1) := by decide +kernel
theorem dX6_empties_10 : decode cX6_empties 10 = .ok (.iadd, 1) := by decide +kernel
theorem dX6_empties_11 : decode cX6_empties 11 = .ok (.istore_n 2, 1) := by decide +kernel
theorem dX6_empties_12 : decode cX6_empties 12 = .ok (.aload_n 0, 1) := by decide +kernel
theorem dX6_empties_13 : decode cX6_empties 13 = .ok (.aload_n 0, 1) := by decide +kernel
theorem dX6_empties_14 : decode cX6_empties 14 = .ok (.invokevirtual 103, 3) := by decide +kernel
theorem dX6_empties_17 : decode cX6_empties 17 = .ok (.iload_n 1, 1) := by decide +kernel
theorem dX6_empties_18 : decode cX6_empties 18 = .ok (.iconst 5, 1) := by decide +kernel
theorem dX6_empties_19 : decode cX6_empties 19 = .ok (.idiv, 1) := by decide +kernel
theorem dX6_empties_20 : decode cX6_empties 20 = .ok (.iconst 5, 1) := by decide +kernel
theorem dX6_empties_21 : decode cX6_empties 21 = .ok (.irem, 1) := by decide +kernel
theorem dX6_empties_22 : decode cX6_empties 22 = .ok (.iconst 1, 1) := by decide +kernel
theorem dX6_empties_23 : decode cX6_empties 23 = .ok (.iadd, 1) := by decide +kernel
theorem dX6_empties_24 : decode cX6_empties 24 = .ok (.invokevirtual 93, 3) := by decide +kernel
theorem dX6_empties_27 : decode cX6_empties 27 = .ok (.bipush 20, 2) := by decide +kernel
theorem dX6_empties_29 : decode cX6_empties 29 = .ok (.iload_n 1, 1) := by decide +kernel
theorem dX6_empties_30 : decode cX6_empties 30 = .ok (.iconst 5, 1) := by decide +kernel
theorem dX6_empties_31 : decode cX6_empties 31 = .ok (.irem, 1) := by decide +kernel
theorem dX6_empties_32 : decode cX6_empties 32 = .ok (.imul, 1) := by decide +kernel
theorem dX6_empties_33 : decode cX6_empties 33 = .ok (.iadd, 1) := by decide +kernel
theorem dX6_empties_34 : decode cX6_empties 34 = .ok (.istore_n 3, 1) := by decide +kernel
theorem dX6_empties_35 : decode cX6_empties 35 = .ok (.sipush 1000, 3) := by decide +kernel
theorem dX6_empties_38 : decode cX6_empties 38 = .ok (.aload_n 0, 1) := by decide +kernel
theorem dX6_empties_39 : decode cX6_empties 39 = .ok (.getfield 7, 3) := by decide +kernel
theorem dX6_empties_42 : decode cX6_empties 42 = .ok (.iconst 0, 1) := by decide +kernel
theorem dX6_empties_43 : decode cX6_empties 43 = .ok (.iaload, 1) := by decide +kernel
theorem dX6_empties_44 : decode cX6_empties 44 = .ok (.imul, 1) := by decide +kernel
theorem dX6_empties_45 : decode cX6_empties 45 = .ok (.istore 4, 2) := by decide +kernel
theorem dX6_empties_47 : decode cX6_empties 47 = .ok (.iload 4, 2) := by decide +kernel
theorem dX6_empties_49 : decode cX6_empties 49 = .ok (.istore 5, 2) := by decide +kernel
theorem dX6_empties_51 : decode cX6_empties 51 = .ok (.iconst 0, 1) := by decide +kernel
theorem dX6_empties_52 : decode cX6_empties 52 = .ok (.istore 6, 2) := by decide +kernel
theorem dX6_empties_54 : decode cX6_empties 54 = .ok (.iload 6, 2) := by decide +kernel
theorem dX6_empties_56 : decode cX6_empties 56 = .ok (.sipush 400, 3) := by decide +kernel
theorem dX6_empties_59 : decode cX6_empties 59 = .ok (.if_icmp .ge 75, 3) := by decide +kernel
theorem dX6_empties_62 : decode cX6_empties 62 = .ok (.iload 5, 2) := by decide +kernel
theorem dX6_empties_64 : decode cX6_empties 64 = .ok (.ifCond .ge 7, 3) := by decide +kernel
theorem dX6_empties_67 : decode cX6_empties 67 = .ok (.iconst 0, 1) := by decide +kernel
theorem dX6_empties_68 : decode cX6_empties 68 = .ok (.goto 15, 3) := by decide +kernel
theorem dX6_empties_71 : decode cX6_empties 71 = .ok (.iload 5, 2) := by decide +kernel
theorem dX6_empties_73 : decode cX6_empties 73 = .ok (.bipush 100, 2) := by decide +kernel
theorem dX6_empties_75 : decode cX6_empties 75 = .ok (.idiv, 1) := by decide +kernel
theorem dX6_empties_76 : decode cX6_empties 76 = .ok (.aload_n 0, 1) := by decide +kernel
theorem dX6_empties_77 : decode cX6_empties 77 = .ok (.getfield 7, 3) := by decide +kernel
theorem dX6_empties_80 : decode cX6_empties 80 = .ok (.iconst 0, 1) := by decide +kernel
theorem dX6_empties_81 : decode cX6_empties 81 = .ok (.iaload, 1) := by decide +kernel
theorem dX6_empties_82 : decode cX6_empties 82 = .ok (.idiv, 1) := by decide +kernel
theorem dX6_empties_83 : decode cX6_empties 83 = .ok (.istore 7, 2) := by decide +kernel
theorem dX6_empties_85 : decode cX6_empties 85 = .ok (.aload_n 0, 1) := by decide +kernel
theorem dX6_empties_86 : decode cX6_empties 86 = .ok (.getfield 51, 3) := by decide +kernel
theorem dX6_empties_89 : decode cX6_empties 89 = .ok (.iload 6, 2) := by decide +kernel
theorem dX6_empties_91 : decode cX6_empties 91 = .ok (.iload 7, 2) := by decide +kernel
theorem dX6_empties_93 : decode cX6_empties 93 = .ok (.bipush 9, 2) := by decide +kernel
theorem dX6_empties_95 : decode cX6_empties 95 = .ok (.if_icmp .le 8, 3) := by decide +kernel
theorem dX6_empties_98 : decode cX6_empties 98 = .ok (.bipush 9, 2) := by decide +kernel
theorem dX6_empties_100 : decode cX6_empties 100 = .ok (.goto 5, 3) := by decide +kernel
theorem dX6_empties_103 : decode cX6_empties 103 = .ok (.iload 7, 2) := by decide +kernel
theorem dX6_empties_105 : decode cX6_empties 105 = .ok (.iastore, 1) := by decide +kernel
theorem dX6_empties_106 : decode cX6_empties 106 = .ok (.iload 5, 2) := by decide +kernel
theorem dX6_empties_108 : decode cX6_empties 108 = .ok (.ifCond .ge 8, 3) := by decide +kernel
theorem dX6_empties_111 : decode cX6_empties 111 = .ok (.iload 5, 2) := by decide +kernel
theorem dX6_empties_113 : decode cX6_empties 113 = .ok (.goto 13, 3) := by decide +kernel
theorem dX6_empties_116 : decode cX6_empties 116 = .ok (.aload_n 0, 1) := by decide +kernel
theorem dX6_empties_117 : decode cX6_empties 117 = .ok (.iload 5, 2) := by decide +kernel
theorem dX6_empties_119 : decode cX6_empties 119 = .ok (.iload 6, 2) := by decide +kernel
theorem dX6_empties_121 : decode cX6_empties 121 = .ok (.iload_n 2, 1) := by decide +kernel
theorem dX6_empties_122 : decode cX6_empties 122 = .ok (.iload_n 3, 1) := by decide +kernel
theorem dX6_empties_123 : decode cX6_empties 123 = .ok (.invokevirtual 96, 3) := by decide +kernel
theorem dX6_empties_126 : decode cX6_empties 126 = .ok (.istore 5, 2) := by decide +kernel
theorem dX6_empties_128 : decode cX6_empties 128 = .ok (.iinc 6 1, 3) := by decide +kernel
theorem dX6_empties_131 : decode cX6_empties 131 = .ok (.goto (-77), 3) := by decide +kernel
theorem dX6_empties_134 : decode cX6_empties 134 = .ok (.return_, 1) := by decide +kernel
set_option maxRecDepth 20000 in
theorem ggX6_isCase_X6_in : GoodIn wsX6_isCase wsX6_in := goodIn_r _ [4] (by decide +kernel) (by decide +kernel)
set_option maxRecDepth 20000 in
theorem gX6_isCase_X6_in : GoodIn wsX6_isCase (va_wsS RX6 60 yX6_in wsX6_in) := goodIn_app (goodIn_of _ (by decide +kernel)) ggX6_isCase_X6_in
theorem dX6_isCase_0 : decode cX6_isCase 0 = .ok (.iload_n 0, 1) := by decide +kernel
theorem dX6_isCase_1 : decode cX6_isCase 1 = .ok (.iconst 0, 1) := by decide +kernel
theorem dX6_isCase_2 : decode cX6_isCase 2 = .ok (.sipush 149, 3) := by decide +kernel
theorem dX6_isCase_5 : decode cX6_isCase 5 = .ok (.invokestatic 60, 3) := by decide +kernel
theorem dX6_isCase_8 : decode cX6_isCase 8 = .ok (.ireturn, 1) := by decide +kernel
set_option maxRecDepth 20000 in
theorem ggX6_level_X6_isCase : GoodIn wsX6_level wsX6_isCase := goodIn_r _ [6, 7, 8, 5, 9] (by decide +kernel) (by decide +kernel)
set_option maxRecDepth 20000 in
theorem gX6_level_X6_isCase : GoodIn wsX6_level (va_wsS RX6 117 yX6_isCase wsX6_isCase) := goodIn_app (goodIn_of _ (by decide +kernel)) ggX6_level_X6_isCase
set_option maxRecDepth 20000 in
theorem ggX6_level_X6_isDay : GoodIn wsX6_level wsX6_isDay := goodIn_r _ [12, 7, 8, 5, 9] (by decide +kernel) (by decide +kernel)
set_option maxRecDepth 20000 in
theorem gX6_level_X6_isDay : GoodIn wsX6_level (va_wsS RX6 64 yX6_isDay wsX6_isDay) := goodIn_app (goodIn_of _ (by decide +kernel)) ggX6_level_X6_isDay
set_option maxRecDepth 20000 in
theorem ggX6_level_X6_empties : GoodIn wsX6_level wsX6_empties := goodIn_r _ [16, 17, 2, 18, 19, 20, 5, 21, 22, 23, 24, 25, 26, 27, 28, 29, 30, 31, 32, 33, 34, 35, 36, 37, 38, 39, 40, 41, 42, 43, 44, 45, 46, 47, 48, 49, 50, 51, 52, 53, 54, 55, 56, 57, 58, 59, 60, 61, 62, 63, 64, 65, 66, 67, 68, 69] (by decide +kernel) (by decide +kernel)
set_option maxRecDepth 20000 in
theorem gX6_level_X6_empties : GoodIn wsX6_level (wsV RX6 120 RX6 yX6_empties wsX6_empties) := goodIn_app (goodIn_of _ (by decide +kernel)) ggX6_level_X6_empties
theorem dX6_level_0 : decode cX6_level 0 = .ok (.aload_n 0, 1) := by decide +kernel
theorem dX6_level_1 : decode cX6_level 1 = .ok (.iconst 0, 1) := by decide +kernel
theorem dX6_level_2 : decode cX6_level 2 = .ok (.putfield 57, 3) := by decide +kernel
theorem dX6_level_5 : decode cX6_level 5 = .ok (.iload_n 1, 1) := by decide +kernel
theorem dX6_level_6 : decode cX6_level 6 = .ok (.invokestatic 117, 3) := by decide +kernel
theorem dX6_level_9 : decode cX6_level 9 = .ok (.ifCond .eq 10, 3) := by decide +kernel
theorem dX6_level_12 : decode cX6_level 12 = .ok (.iload_n 2, 1) := by decide +kernel
theorem dX6_level_13 : decode cX6_level 13 = .ok (.invokestatic 64, 3) := by decide +kernel
theorem dX6_level_16 : decode cX6_level 16 = .ok (.ifCond .ne 5, 3) := by decide +kernel
theorem dX6_level_19 : decode cX6_level 19 = .ok (.iconst (-1), 1) := by decide +kernel
theorem dX6_level_20 : decode cX6_level 20 = .ok (.ireturn, 1) := by decide +kernel
theorem dX6_level_21 : decode cX6_level 21 = .ok (.aload_n 0, 1) := by decide +kernel
theorem dX6_level_22 : decode cX6_level 22 = .ok (.iload_n 1, 1) := by decide +kernel
theorem dX6_level_23 : decode cX6_level 23 = .ok (.invokevirtual 120, 3) := by decide +kernel
theorem dX6_level_26 : decode cX6_level 26 = .ok (.aload_n 0, 1) := by decide +kernel
theorem dX6_level_27 : decode cX6_level 27 = .ok (.getfield 51, 3) := by decide +kernel
theorem dX6_level_30 : decode cX6_level 30 = .ok (.iload_n 2, 1) := by decide +kernel
theorem dX6_level_31 : decode cX6_level 31 = .ok (.iaload, 1) := by decide +kernel
theorem dX6_level_32 : decode cX6_level 32 = .ok (.ireturn, 1) := by decide +kernel
set_option maxRecDepth 20000 in
theorem ggX6_isAgreeing_X6_empties : GoodIn wsX6_isAgreeing wsX6_empties := goodIn_r _ [9, 10, 2, 11, 12, 13, 8, 14, 15, 16, 17, 18, 19, 20, 21, 22, 23, 24, 25, 26, 27, 28, 29, 30, 31, 32, 33, 34, 35, 36, 37, 38, 39, 40, 41, 42, 43, 44, 45, 46, 47, 48, 49, 50, 51, 52, 53, 54, 55, 56, 57, 58, 59, 60, 61, 62] (by decide +kernel) (by decide +kernel)
set_option maxRecDepth 20000 in
theorem gX6_isAgreeing_X6_empties : GoodIn wsX6_isAgreeing (wsV RX6 120 RX6 yX6_empties wsX6_empties) := goodIn_app (goodIn_of _ (by decide +kernel)) ggX6_isAgreeing_X6_empties
theorem dX6_isAgreeing_0 : decode cX6_isAgreeing 0 = .ok (.aload_n 0, 1) := by decide +kernel
theorem dX6_isAgreeing_1 : decode cX6_isAgreeing 1 = .ok (.iload_n 1, 1) := by decide +kernel
theorem dX6_isAgreeing_2 : decode cX6_isAgreeing 2 = .ok (.invokevirtual 120, 3) := by decide +kernel
theorem dX6_isAgreeing_5 : decode cX6_isAgreeing 5 = .ok (.iconst 1, 1) := by decide +kernel
theorem dX6_isAgreeing_6 : decode cX6_isAgreeing 6 = .ok (.istore_n 2, 1) := by decide +kernel
theorem dX6_isAgreeing_7 : decode cX6_isAgreeing 7 = .ok (.iconst 0, 1) := by decide +kernel
theorem dX6_isAgreeing_8 : decode cX6_isAgreeing 8 = .ok (.istore_n 3, 1) := by decide +kernel
theorem dX6_isAgreeing_9 : decode cX6_isAgreeing 9 = .ok (.iload_n 3, 1) := by decide +kernel
theorem dX6_isAgreeing_10 : decode cX6_isAgreeing 10 = .ok (.aload_n 0, 1) := by decide +kernel
theorem dX6_isAgreeing_11 : decode cX6_isAgreeing 11 = .ok (.getfield 114, 3) := by decide +kernel
theorem dX6_isAgreeing_14 : decode cX6_isAgreeing 14 = .ok (.if_icmp .ge 37, 3) := by decide +kernel
theorem dX6_isAgreeing_17 : decode cX6_isAgreeing 17 = .ok (.iload_n 2, 1) := by decide +kernel
theorem dX6_isAgreeing_18 : decode cX6_isAgreeing 18 = .ok (.aload_n 0, 1) := by decide +kernel
theorem dX6_isAgreeing_19 : decode cX6_isAgreeing 19 = .ok (.getfield 51, 3) := by decide +kernel
theorem dX6_isAgreeing_22 : decode cX6_isAgreeing 22 = .ok (.aload_n 0, 1) := by decide +kernel
theorem dX6_isAgreeing_23 : decode cX6_isAgreeing 23 = .ok (.getfield 45, 3) := by decide +kernel
theorem dX6_isAgreeing_26 : decode cX6_isAgreeing 26 = .ok (.iload_n 3, 1) := by decide +kernel
theorem dX6_isAgreeing_27 : decode cX6_isAgreeing 27 = .ok (.iaload, 1) := by decide +kernel
theorem dX6_isAgreeing_28 : decode cX6_isAgreeing 28 = .ok (.iaload, 1) := by decide +kernel
theorem dX6_isAgreeing_29 : decode cX6_isAgreeing 29 = .ok (.aload_n 0, 1) := by decide +kernel
theorem dX6_isAgreeing_30 : decode cX6_isAgreeing 30 = .ok (.getfield 48, 3) := by decide +kernel
theorem dX6_isAgreeing_33 : decode cX6_isAgreeing 33 = .ok (.iload_n 3, 1) := by decide +kernel
theorem dX6_isAgreeing_34 : decode cX6_isAgreeing 34 = .ok (.iaload, 1) := by decide +kernel
theorem dX6_isAgreeing_35 : decode cX6_isAgreeing 35 = .ok (.if_icmp .ne 7, 3) := by decide +kernel
theorem dX6_isAgreeing_38 : decode cX6_isAgreeing 38 = .ok (.iconst 1, 1) := by decide +kernel
theorem dX6_isAgreeing_39 : decode cX6_isAgreeing 39 = .ok (.goto 4, 3) := by decide +kernel
theorem dX6_isAgreeing_42 : decode cX6_isAgreeing 42 = .ok (.iconst 0, 1) := by decide +kernel
theorem dX6_isAgreeing_43 : decode cX6_isAgreeing 43 = .ok (.iand, 1) := by decide +kernel
theorem dX6_isAgreeing_44 : decode cX6_isAgreeing 44 = .ok (.istore_n 2, 1) := by decide +kernel
theorem dX6_isAgreeing_45 : decode cX6_isAgreeing 45 = .ok (.iinc 3 1, 3) := by decide +kernel
theorem dX6_isAgreeing_48 : decode cX6_isAgreeing 48 = .ok (.goto (-39), 3) := by decide +kernel
theorem dX6_isAgreeing_51 : decode cX6_isAgreeing 51 = .ok (.iload_n 2, 1) := by decide +kernel
theorem dX6_isAgreeing_52 : decode cX6_isAgreeing 52 = .ok (.ireturn, 1) := by decide +kernel
set_option maxRecDepth 20000 in
theorem ggX6_agrees_X6_isCase : GoodIn wsX6_agrees wsX6_isCase := goodIn_r _ [5, 6, 7, 4, 8] (by decide +kernel) (by decide +kernel)
set_option maxRecDepth 20000 in
theorem gX6_agrees_X6_isCase : GoodIn wsX6_agrees (va_wsS RX6 117 yX6_isCase wsX6_isCase) := goodIn_app (goodIn_of _ (by decide +kernel)) ggX6_agrees_X6_isCase
set_option maxRecDepth 20000 in
theorem ggX6_agrees_X6_isAgreeing : GoodIn wsX6_agrees wsX6_isAgreeing := goodIn_r _ [12, 13, 14, 15, 16, 17, 18, 19, 4, 20, 21, 22, 23, 24, 25, 26, 27, 28, 29, 30, 31, 32, 33, 34, 35, 36, 37, 38, 39, 40, 41, 42, 43, 44, 45, 46, 47, 48, 49, 50, 51, 52, 53, 54, 55, 56, 57, 58, 59, 60, 61, 62, 63, 64, 65, 66, 67, 68, 69, 70, 71, 72, 73] (by decide +kernel) (by decide +kernel)
set_option maxRecDepth 20000 in
theorem gX6_agrees_X6_isAgreeing : GoodIn wsX6_agrees (wsV RX6 124 RX6 yX6_isAgreeing wsX6_isAgreeing) := goodIn_app (goodIn_of _ (by decide +kernel)) ggX6_agrees_X6_isAgreeing
theorem dX6_agrees_0 : decode cX6_agrees 0 = .ok (.aload_n 0, 1) := by decide +kernel
theorem dX6_agrees_1 : decode cX6_agrees 1 = .ok (.iconst 0, 1) := by decide +kernel
theorem dX6_agrees_2 : decode cX6_agrees 2 = .ok (.putfield 57, 3) := by decide +kernel
theorem dX6_agrees_5 : decode cX6_agrees 5 = .ok (.iload_n 1, 1) := by decide +kernel
theorem dX6_agrees_6 : decode cX6_agrees 6 = .ok (.invokestatic 117, 3) := by decide +kernel
theorem dX6_agrees_9 : decode cX6_agrees 9 = .ok (.ifCond .ne 7, 3) := by decide +kernel
theorem dX6_agrees_12 : decode cX6_agrees 12 = .ok (.iconst (-1), 1) := by decide +kernel
theorem dX6_agrees_13 : decode cX6_agrees 13 = .ok (.goto 16, 3) := by decide +kernel
theorem dX6_agrees_16 : decode cX6_agrees 16 = .ok (.aload_n 0, 1) := by decide +kernel
theorem dX6_agrees_17 : decode cX6_agrees 17 = .ok (.iload_n 1, 1) := by decide +kernel
theorem dX6_agrees_18 : decode cX6_agrees 18 = .ok (.invokevirtual 124, 3) := by decide +kernel
theorem dX6_agrees_21 : decode cX6_agrees 21 = .ok (.ifCond .eq 7, 3) := by decide +kernel
theorem dX6_agrees_24 : decode cX6_agrees 24 = .ok (.iconst 1, 1) := by decide +kernel
theorem dX6_agrees_25 : decode cX6_agrees 25 = .ok (.goto 4, 3) := by decide +kernel
theorem dX6_agrees_28 : decode cX6_agrees 28 = .ok (.iconst 0, 1) := by decide +kernel
theorem dX6_agrees_29 : decode cX6_agrees 29 = .ok (.ireturn, 1) := by decide +kernel
set_option maxRecDepth 20000 in
theorem ggX6_field_X6_in : GoodIn wsX6_field wsX6_in := goodIn_r _ [7] (by decide +kernel) (by decide +kernel)
set_option maxRecDepth 20000 in
theorem gX6_field_X6_in : GoodIn wsX6_field (va_wsS RX6 60 yX6_in wsX6_in) := goodIn_app (goodIn_of _ (by decide +kernel)) ggX6_field_X6_in
set_option maxRecDepth 20000 in
theorem ggX6_field_X6_isAgreeing : GoodIn wsX6_field wsX6_isAgreeing := goodIn_r _ [11, 12, 3, 13, 14, 15, 16, 17, 6, 18, 19, 20, 21, 22, 23, 24, 25, 26, 27, 28, 29, 30, 31, 32, 33, 34, 35, 36, 37, 38, 39, 40, 41, 42, 43, 44, 45, 46, 47, 48, 49, 50, 51, 52, 53, 54, 55, 56, 57, 58, 59, 60, 61, 62, 63, 64, 65, 66, 67, 68, 69, 70, 71] (by decide +kernel) (by decide +kernel)
set_option maxRecDepth 20000 in
theorem gX6_field_X6_isAgreeing : GoodIn wsX6_field (wsV RX6 124 RX6 yX6_isAgreeing wsX6_isAgreeing) := goodIn_app (goodIn_of _ (by decide +kernel)) ggX6_field_X6_isAgreeing
theorem dX6_field_0 : decode cX6_field 0 = .ok (.aload_n 0, 1) := by decide +kernel
theorem dX6_field_1 : decode cX6_field 1 = .ok (.iconst 0, 1) := by decide +kernel
theorem dX6_field_2 : decode cX6_field 2 = .ok (.putfield 57, 3) := by decide +kernel
theorem dX6_field_5 : decode cX6_field 5 = .ok (.iload_n 1, 1) := by decide +kernel
theorem dX6_field_6 : decode cX6_field 6 = .ok (.iconst 0, 1) := by decide +kernel
theorem dX6_field_7 : decode cX6_field 7 = .ok (.iconst 3, 1) := by decide +kernel
theorem dX6_field_8 : decode cX6_field 8 = .ok (.invokestatic 60, 3) := by decide +kernel
theorem dX6_field_11 : decode cX6_field 11 = .ok (.ifCond .ne 5, 3) := by decide +kernel
theorem dX6_field_14 : decode cX6_field 14 = .ok (.iconst (-1), 1) := by decide +kernel
theorem dX6_field_15 : decode cX6_field 15 = .ok (.ireturn, 1) := by decide +kernel
theorem dX6_field_16 : decode cX6_field 16 = .ok (.iconst 0, 1) := by decide +kernel
theorem dX6_field_17 : decode cX6_field 17 = .ok (.istore_n 2, 1) := by decide +kernel
theorem dX6_field_18 : decode cX6_field 18 = .ok (.iload_n 2, 1) := by decide +kernel
theorem dX6_field_19 : decode cX6_field 19 = .ok (.sipush 4000, 3) := by decide +kernel
theorem dX6_field_22 : decode cX6_field 22 = .ok (.if_icmp .ge 16, 3) := by decide +kernel
theorem dX6_field_25 : decode cX6_field 25 = .ok (.aload_n 0, 1) := by decide +kernel
theorem dX6_field_26 : decode cX6_field 26 = .ok (.getfield 54, 3) := by decide +kernel
theorem dX6_field_29 : decode cX6_field 29 = .ok (.iload_n 2, 1) := by decide +kernel
theorem dX6_field_30 : decode cX6_field 30 = .ok (.iconst 0, 1) := by decide +kernel
theorem dX6_field_31 : decode cX6_field 31 = .ok (.iastore, 1) := by decide +kernel
theorem dX6_field_32 : decode cX6_field 32 = .ok (.iinc 2 1, 3) := by decide +kernel
theorem dX6_field_35 : decode cX6_field 35 = .ok (.goto (-17), 3) := by decide +kernel
theorem dX6_field_38 : decode cX6_field 38 = .ok (.iconst 0, 1) := by decide +kernel
theorem dX6_field_39 : decode cX6_field 39 = .ok (.istore_n 2, 1) := by decide +kernel
theorem dX6_field_40 : decode cX6_field 40 = .ok (.bipush (-9), 2) := by decide +kernel
theorem dX6_field_42 : decode cX6_field 42 = .ok (.istore_n 3, 1) := by decide +kernel
theorem dX6_field_43 : decode cX6_field 43 = .ok (.iconst 0, 1) := by decide +kernel
theorem dX6_field_44 : decode cX6_field 44 = .ok (.istore 4, 2) := by decide +kernel
theorem dX6_field_46 : decode cX6_field 46 = .ok (.iconst 0, 1) := by decide +kernel
theorem dX6_field_47 : decode cX6_field 47 = .ok (.istore 5, 2) := by decide +kernel
theorem dX6_field_49 : decode cX6_field 49 = .ok (.iload 5, 2) := by decide +kernel
theorem dX6_field_51 : decode cX6_field 51 = .ok (.sipush 150, 3) := by decide +kernel
theorem dX6_field_54 : decode cX6_field 54 = .ok (.if_icmp .ge 90, 3) := by decide +kernel
theorem dX6_field_57 : decode cX6_field 57 = .ok (.aload_n 0, 1) := by decide +kernel
theorem dX6_field_58 : decode cX6_field 58 = .ok (.iload 5, 2) := by decide +kernel
theorem dX6_field_60 : decode cX6_field 60 = .ok (.invokevirtual 124, 3) := by decide +kernel
theorem dX6_field_63 : decode cX6_field 63 = .ok (.ifCond .eq 75, 3) := by decide +kernel
theorem dX6_field_66 : decode cX6_field 66 = .ok (.iinc 2 1, 3) := by decide +kernel
theorem dX6_field_69 : decode cX6_field 69 = .ok (.iload_n 3, 1) := by decide +kernel
theorem dX6_field_70 : decode cX6_field 70 = .ok (.bipush (-9), 2) := by decide +kernel
theorem dX6_field_72 : decode cX6_field 72 = .ok (.if_icmp .ne 8, 3) := by decide +kernel
theorem dX6_field_75 : decode cX6_field 75 = .ok (.iload 5, 2) := by decide +kernel
theorem dX6_field_77 : decode cX6_field 77 = .ok (.goto 4, 3) := by decide +kernel
theorem dX6_field_80 : decode cX6_field 80 = .ok (.iload_n 3, 1) := by decide +kernel
theorem dX6_field_81 : decode cX6_field 81 = .ok (.istore_n 3, 1) := by decide +kernel
theorem dX6_field_82 : decode cX6_field 82 = .ok (.iload 4, 2) := by decide +kernel
theorem dX6_field_84 : decode cX6_field 84 = .ok (.iload 5, 2) := by decide +kernel
theorem dX6_field_86 : decode cX6_field 86 = .ok (.iconst 5, 1) := by decide +kernel
theorem dX6_field_87 : decode cX6_field 87 = .ok (.irem, 1) := by decide +kernel
theorem dX6_field_88 : decode cX6_field 88 = .ok (.ifCond .ne 7, 3) := by decide +kernel
theorem dX6_field_91 : decode cX6_field 91 = .ok (.iconst 1, 1) := by decide +kernel
theorem dX6_field_92 : decode cX6_field 92 = .ok (.goto 4, 3) := by decide +kernel
theorem dX6_field_95 : decode cX6_field 95 = .ok (.iconst 0, 1) := by decide +kernel
theorem dX6_field_96 : decode cX6_field 96 = .ok (.ior, 1) := by decide +kernel
theorem dX6_field_97 : decode cX6_field 97 = .ok (.istore 4, 2) := by decide +kernel
theorem dX6_field_99 : decode cX6_field 99 = .ok (.iconst 0, 1) := by decide +kernel
theorem dX6_field_100 : decode cX6_field 100 = .ok (.istore 6, 2) := by decide +kernel
theorem dX6_field_102 : decode cX6_field 102 = .ok (.iload 6, 2) := by decide +kernel
theorem dX6_field_104 : decode cX6_field 104 = .ok (.sipush 400, 3) := by decide +kernel
theorem dX6_field_107 : decode cX6_field 107 = .ok (.if_icmp .ge 31, 3) := by decide +kernel
theorem dX6_field_110 : decode cX6_field 110 = .ok (.aload_n 0, 1) := by decide +kernel
theorem dX6_field_111 : decode cX6_field 111 = .ok (.getfield 54, 3) := by decide +kernel
theorem dX6_field_114 : decode cX6_field 114 = .ok (.bipush 10, 2) := by decide +kernel
theorem dX6_field_116 : decode cX6_field 116 = .ok (.iload 6, 2) := by decide +kernel
theorem dX6_field_118 : decode cX6_field 118 = .ok (.imul, 1) := by decide +kernel
theorem dX6_field_119 : decode cX6_field 119 = .ok (.aload_n 0, 1) := by decide +kernel
theorem dX6_field_120 : decode cX6_field 120 = .ok (.getfield 51, 3) := by decide +kernel
theorem dX6_field_123 : decode cX6_field 123 = .ok (.iload 6, 2) := by decide +kernel
theorem dX6_field_125 : decode cX6_field 125 = .ok (.iaload, 1) := by decide +kernel
theorem dX6_field_126 : decode cX6_field 126 = .ok (.iadd, 1) := by decide +kernel
theorem dX6_field_127 : decode cX6_field 127 = .ok (.dup2, 1) := by decide +kernel
theorem dX6_field_128 : decode cX6_field 128 = .ok (.iaload, 1) := by decide +kernel
theorem dX6_field_129 : decode cX6_field 129 = .ok (.iconst 1, 1) := by decide +kernel
theorem dX6_field_130 : decode cX6_field 130 = .ok (.iadd, 1) := by decide +kernel
theorem dX6_field_131 : decode cX6_field 131 = .ok (.iastore, 1) := by decide +kernel
theorem dX6_field_132 : decode cX6_field 132 = .ok (.iinc 6 1, 3) := by decide +kernel
theorem dX6_field_135 : decode cX6_field 135 = .ok (.goto (-33), 3) := by decide +kernel
theorem dX6_field_138 : decode cX6_field 138 = .ok (.iinc 5 1, 3) := by decide +kernel
theorem dX6_field_141 : decode cX6_field 141 = .ok (.goto (-92), 3) := by decide +kernel
theorem dX6_field_144 : decode cX6_field 144 = .ok (.iload_n 1, 1) := by decide +kernel
theorem dX6_field_145 : decode cX6_field 145 = .ok (.iconst 3, 1) := by decide +kernel
theorem dX6_field_146 : decode cX6_field 146 = .ok (.if_icmp .ge 35, 3) := by decide +kernel
theorem dX6_field_149 : decode cX6_field 149 = .ok (.iload_n 1, 1) := by decide +kernel
theorem dX6_field_150 : decode cX6_field 150 = .ok (.ifCond .ne 7, 3) := by decide +kernel
theorem dX6_field_153 : decode cX6_field 153 = .ok (.iload_n 2, 1) := by decide +kernel
theorem dX6_field_154 : decode cX6_field 154 = .ok (.goto 26, 3) := by decide +kernel
theorem dX6_field_157 : decode cX6_field 157 = .ok (.iload_n 1, 1) := by decide +kernel
theorem dX6_field_158 : decode cX6_field 158 = .ok (.iconst 1, 1) := by decide +kernel
theorem dX6_field_159 : decode cX6_field 159 = .ok (.if_icmp .ne 7, 3) := by decide +kernel
theorem dX6_field_162 : decode cX6_field 162 = .ok (.iload_n 3, 1) := by decide +kernel
theorem dX6_field_163 : decode cX6_field 163 = .ok (.goto 17, 3) := by decide +kernel
theorem dX6_field_166 : decode cX6_field 166 = .ok (.iload_n 2, 1) := by decide +kernel
theorem dX6_field_167 : decode cX6_field 167 = .ok (.ifCond .le 12, 3) := by decide +kernel
theorem dX6_field_170 : decode cX6_field 170 = .ok (.iload 4, 2) := by decide +kernel
theorem dX6_field_172 : decode cX6_field 172 = .ok (.ifCond .ne 7, 3) := by decide +kernel
theorem dX6_field_175 : decode cX6_field 175 = .ok (.iconst 1, 1) := by decide +kernel
theorem dX6_field_176 : decode cX6_field 176 = .ok (.goto 4, 3) := by decide +kernel
theorem dX6_field_179 : decode cX6_field 179 = .ok (.iconst 0, 1) := by decide +kernel
theorem dX6_field_180 : decode cX6_field 180 = .ok (.ireturn, 1) := by decide +kernel
theorem dX6_field_181 : decode cX6_field 181 = .ok (.bipush (-9), 2) := by decide +kernel
theorem dX6_field_183 : decode cX6_field 183 = .ok (.istore 5, 2) := by decide +kernel
theorem dX6_field_185 : decode cX6_field 185 = .ok (.iconst 0, 1) := by decide +kernel
theorem dX6_field_186 : decode cX6_field 186 = .ok (.istore 6, 2) := by decide +kernel
theorem dX6_field_188 : decode cX6_field 188 = .ok (.iconst 0, 1) := by decide +kernel
theorem dX6_field_189 : decode cX6_field 189 = .ok (.istore 7, 2) := by decide +kernel
theorem dX6_field_191 : decode cX6_field 191 = .ok (.iload 7, 2) := by decide +kernel
theorem dX6_field_193 : decode cX6_field 193 = .ok (.sipush 400, 3) := by decide +kernel
theorem dX6_field_196 : decode cX6_field 196 = .ok (.if_icmp .ge 93, 3) := by decide +kernel
theorem dX6_field_199 : decode cX6_field 199 = .ok (.iload_n 2, 1) := by decide +kernel
theorem dX6_field_200 : decode cX6_field 200 = .ok (.iconst 1, 1) := by decide +kernel
theorem dX6_field_201 : decode cX6_field 201 = .ok (.if_icmp .le 88, 3) := by decide +kernel
theorem dX6_field_204 : decode cX6_field 204 = .ok (.iconst 0, 1) := by decide +kernel
theorem dX6_field_205 : decode cX6_field 205 = .ok (.istore 8, 2) := by decide +kernel
theorem dX6_field_207 : decode cX6_field 207 = .ok (.iconst 0, 1) := by decide +kernel
theorem dX6_field_208 : decode cX6_field 208 = .ok (.istore 9, 2) := by decide +kernel
theorem dX6_field_210 : decode cX6_field 210 = .ok (.iload 9, 2) := by decide +kernel
theorem dX6_field_212 : decode cX6_field 212 = .ok (.bipush 10, 2) := by decide +kernel
theorem dX6_field_214 : decode cX6_field 214 = .ok (.if_icmp .ge 47, 3) := by decide +kernel
theorem dX6_field_217 : decode cX6_field 217 = .ok (.aload_n 0, 1) := by decide +kernel
theorem dX6_field_218 : decode cX6_field 218 = .ok (.getfield 54, 3) := by decide +kernel
theorem dX6_field_221 : decode cX6_field 221 = .ok (.bipush 10, 2) := by decide +kernel
theorem dX6_field_223 : decode cX6_field 223 = .ok (.iload 7, 2) := by decide +kernel
theorem dX6_field_225 : decode cX6_field 225 = .ok (.imul, 1) := by decide +kernel
theorem dX6_field_226 : decode cX6_field 226 = .ok (.iload 9, 2) := by decide +kernel
theorem dX6_field_228 : decode cX6_field 228 = .ok (.iadd, 1) := by decide +kernel
theorem dX6_field_229 : decode cX6_field 229 = .ok (.iaload, 1) := by decide +kernel
theorem dX6_field_230 : decode cX6_field 230 = .ok (.iload 8, 2) := by decide +kernel
theorem dX6_field_232 : decode cX6_field 232 = .ok (.if_icmp .le 19, 3) := by decide +kernel
theorem dX6_field_235 : decode cX6_field 235 = .ok (.aload_n 0, 1) := by decide +kernel
theorem dX6_field_236 : decode cX6_field 236 = .ok (.getfield 54, 3) := by decide +kernel
theorem dX6_field_239 : decode cX6_field 239 = .ok (.bipush 10, 2) := by decide +kernel
theorem dX6_field_241 : decode cX6_field 241 = .ok (.iload 7, 2) := by decide +kernel
theorem dX6_field_243 : decode cX6_field 243 = .ok (.imul, 1) := by decide +kernel
theorem dX6_field_244 : decode cX6_field 244 = .ok (.iload 9, 2) := by decide +kernel
theorem dX6_field_246 : decode cX6_field 246 = .ok (.iadd, 1) := by decide +kernel
theorem dX6_field_247 : decode cX6_field 247 = .ok (.iaload, 1) := by decide +kernel
theorem dX6_field_248 : decode cX6_field 248 = .ok (.goto 5, 3) := by decide +kernel
theorem dX6_field_251 : decode cX6_field 251 = .ok (.iload 8, 2) := by decide +kernel
theorem dX6_field_253 : decode cX6_field 253 = .ok (.istore 8, 2) := by decide +kernel
theorem dX6_field_255 : decode cX6_field 255 = .ok (.iinc 9 1, 3) := by decide +kernel
theorem dX6_field_258 : decode cX6_field 258 = .ok (.goto (-48), 3) := by decide +kernel
theorem dX6_field_261 : decode cX6_field 261 = .ok (.iload 5, 2) := by decide +kernel
theorem dX6_field_263 : decode cX6_field 263 = .ok (.bipush (-9), 2) := by decide +kernel
theorem dX6_field_265 : decode cX6_field 265 = .ok (.if_icmp .eq 10, 3) := by decide +kernel
theorem dX6_field_268 : decode cX6_field 268 = .ok (.iload 8, 2) := by decide +kernel
theorem dX6_field_270 : decode cX6_field 270 = .ok (.iload 6, 2) := by decide +kernel
theorem dX6_field_272 : decode cX6_field 272 = .ok (.if_icmp .ge 11, 3) := by decide +kernel
theorem dX6_field_275 : decode cX6_field 275 = .ok (.iload 7, 2) := by decide +kernel
theorem dX6_field_277 : decode cX6_field 277 = .ok (.istore 5, 2) := by decide +kernel
theorem dX6_field_279 : decode cX6_field 279 = .ok (.iload 8, 2) := by decide +kernel
theorem dX6_field_281 : decode cX6_field 281 = .ok (.istore 6, 2) := by decide +kernel
theorem dX6_field_283 : decode cX6_field 283 = .ok (.iinc 7 1, 3) := by decide +kernel
theorem dX6_field_286 : decode cX6_field 286 = .ok (.goto (-95), 3) := by decide +kernel
theorem dX6_field_289 : decode cX6_field 289 = .ok (.iload 5, 2) := by decide +kernel
theorem dX6_field_291 : decode cX6_field 291 = .ok (.ireturn, 1) := by decide +kernel
set_option maxRecDepth 20000 in
theorem ggX6_count_X6_in : GoodIn wsX6_count wsX6_in := goodIn_r _ [9] (by decide +kernel) (by decide +kernel)
set_option maxRecDepth 20000 in
theorem gX6_count_X6_in : GoodIn wsX6_count (va_wsS RX6 60 yX6_in wsX6_in) := goodIn_app (goodIn_of _ (by decide +kernel)) ggX6_count_X6_in
theorem dX6_count_0 : decode cX6_count 0 = .ok (.aload_n 0, 1) := by decide +kernel
theorem dX6_count_1 : decode cX6_count 1 = .ok (.iconst 0, 1) := by decide +kernel
theorem dX6_count_2 : decode cX6_count 2 = .ok (.putfield 57, 3) := by decide +kernel
theorem dX6_count_5 : decode cX6_count 5 = .ok (.iconst 0, 1) := by decide +kernel
theorem dX6_count_6 : decode cX6_count 6 = .ok (.istore_n 2, 1) := by decide +kernel
theorem dX6_count_7 : decode cX6_count 7 = .ok (.iconst 0, 1) := by decide +kernel
theorem dX6_count_8 : decode cX6_count 8 = .ok (.istore_n 3, 1) := by decide +kernel
theorem dX6_count_9 : decode cX6_count 9 = .ok (.iload_n 3, 1) := by decide +kernel
theorem dX6_count_10 : decode cX6_count 10 = .ok (.aload_n 0, 1) := by decide +kernel
theorem dX6_count_11 : decode cX6_count 11 = .ok (.getfield 72, 3) := by decide +kernel
theorem dX6_count_14 : decode cX6_count 14 = .ok (.if_icmp .ge 26, 3) := by decide +kernel
theorem dX6_count_17 : decode cX6_count 17 = .ok (.iload_n 2, 1) := by decide +kernel
theorem dX6_count_18 : decode cX6_count 18 = .ok (.aload_n 0, 1) := by decide +kernel
theorem dX6_count_19 : decode cX6_count 19 = .ok (.getfield 41, 3) := by decide +kernel
theorem dX6_count_22 : decode cX6_count 22 = .ok (.iload_n 3, 1) := by decide +kernel
theorem dX6_count_23 : decode cX6_count 23 = .ok (.baload, 1) := by decide +kernel
theorem dX6_count_24 : decode cX6_count 24 = .ok (.ifCond .eq 7, 3) := by decide +kernel
theorem dX6_count_27 : decode cX6_count 27 = .ok (.iconst 1, 1) := by decide +kernel
theorem dX6_count_28 : decode cX6_count 28 = .ok (.goto 4, 3) := by decide +kernel
theorem dX6_count_31 : decode cX6_count 31 = .ok (.iconst 0, 1) := by decide +kernel
theorem dX6_count_32 : decode cX6_count 32 = .ok (.iadd, 1) := by decide +kernel
theorem dX6_count_33 : decode cX6_count 33 = .ok (.istore_n 2, 1) := by decide +kernel
theorem dX6_count_34 : decode cX6_count 34 = .ok (.iinc 3 1, 3) := by decide +kernel
theorem dX6_count_37 : decode cX6_count 37 = .ok (.goto (-28), 3) := by decide +kernel
theorem dX6_count_40 : decode cX6_count 40 = .ok (.iload_n 1, 1) := by decide +kernel
theorem dX6_count_41 : decode cX6_count 41 = .ok (.ifCond .ne 10, 3) := by decide +kernel
theorem dX6_count_44 : decode cX6_count 44 = .ok (.aload_n 0, 1) := by decide +kernel
theorem dX6_count_45 : decode cX6_count 45 = .ok (.getfield 72, 3) := by decide +kernel
theorem dX6_count_48 : decode cX6_count 48 = .ok (.goto 45, 3) := by decide +kernel
theorem dX6_count_51 : decode cX6_count 51 = .ok (.iload_n 1, 1) := by decide +kernel
theorem dX6_count_52 : decode cX6_count 52 = .ok (.iconst 1, 1) := by decide +kernel
theorem dX6_count_53 : decode cX6_count 53 = .ok (.if_icmp .ne 7, 3) := by decide +kernel
theorem dX6_count_56 : decode cX6_count 56 = .ok (.iload_n 2, 1) := by decide +kernel
theorem dX6_count_57 : decode cX6_count 57 = .ok (.goto 36, 3) := by decide +kernel
theorem dX6_count_60 : decode cX6_count 60 = .ok (.iload_n 1, 1) := by decide +kernel
theorem dX6_count_61 : decode cX6_count 61 = .ok (.iconst 2, 1) := by decide +kernel
theorem dX6_count_62 : decode cX6_count 62 = .ok (.if_icmp .ne 10, 3) := by decide +kernel
theorem dX6_count_65 : decode cX6_count 65 = .ok (.aload_n 0, 1) := by decide +kernel
theorem dX6_count_66 : decode cX6_count 66 = .ok (.getfield 114, 3) := by decide +kernel
theorem dX6_count_69 : decode cX6_count 69 = .ok (.goto 24, 3) := by decide +kernel
theorem dX6_count_72 : decode cX6_count 72 = .ok (.iload_n 1, 1) := by decide +kernel
theorem dX6_count_73 : decode cX6_count 73 = .ok (.iconst 3, 1) := by decide +kernel
theorem dX6_count_74 : decode cX6_count 74 = .ok (.iconst 5, 1) := by decide +kernel
theorem dX6_count_75 : decode cX6_count 75 = .ok (.invokestatic 60, 3) := by decide +kernel
theorem dX6_count_78 : decode cX6_count 78 = .ok (.ifCond .eq 14, 3) := by decide +kernel
theorem dX6_count_81 : decode cX6_count 81 = .ok (.aload_n 0, 1) := by decide +kernel
theorem dX6_count_82 : decode cX6_count 82 = .ok (.getfield 7, 3) := by decide +kernel
theorem dX6_count_85 : decode cX6_count 85 = .ok (.iload_n 1, 1) := by decide +kernel
theorem dX6_count_86 : decode cX6_count 86 = .ok (.iconst 3, 1) := by decide +kernel
theorem dX6_count_87 : decode cX6_count 87 = .ok (.isub, 1) := by decide +kernel
theorem dX6_count_88 : decode cX6_count 88 = .ok (.iaload, 1) := by decide +kernel
theorem dX6_count_89 : decode cX6_count 89 = .ok (.goto 4, 3) := by decide +kernel
theorem dX6_count_92 : decode cX6_count 92 = .ok (.iconst (-1), 1) := by decide +kernel
theorem dX6_count_93 : decode cX6_count 93 = .ok (.ireturn, 1) := by decide +kernel
theorem dX6_trace_0 : decode cX6_trace 0 = .ok (.aload_n 0, 1) := by decide +kernel
theorem dX6_trace_1 : decode cX6_trace 1 = .ok (.iconst 0, 1) := by decide +kernel
theorem dX6_trace_2 : decode cX6_trace 2 = .ok (.putfield 57, 3) := by decide +kernel
theorem dX6_trace_5 : decode cX6_trace 5 = .ok (.aload_n 0, 1) := by decide +kernel
theorem dX6_trace_6 : decode cX6_trace 6 = .ok (.getfield 78, 3) := by decide +kernel
theorem dX6_trace_9 : decode cX6_trace 9 = .ok (.lreturn, 1) := by decide +kernel
theorem dJ6_bitCount_0f7a4_0 : decode cJ6_bitCount_0f7a4 0 = .ok (.iload_n 0, 1) := by decide +kernel
theorem dJ6_bitCount_0f7a4_1 : decode cJ6_bitCount_0f7a4 1 = .ok (.iload_n 0, 1) := by decide +kernel
theorem dJ6_bitCount_0f7a4_2 : decode cJ6_bitCount_0f7a4 2 = .ok (.iconst 1, 1) := by decide +kernel
theorem dJ6_bitCount_0f7a4_3 : decode cJ6_bitCount_0f7a4 3 = .ok (.iushr, 1) := by decide +kernel
theorem dJ6_bitCount_0f7a4_4 : decode cJ6_bitCount_0f7a4 4 = .ok (.ldc_w 265, 3) := by decide +kernel
theorem dJ6_bitCount_0f7a4_7 : decode cJ6_bitCount_0f7a4 7 = .ok (.iand, 1) := by decide +kernel
theorem dJ6_bitCount_0f7a4_8 : decode cJ6_bitCount_0f7a4 8 = .ok (.isub, 1) := by decide +kernel
theorem dJ6_bitCount_0f7a4_9 : decode cJ6_bitCount_0f7a4 9 = .ok (.istore_n 0, 1) := by decide +kernel
theorem dJ6_bitCount_0f7a4_10 : decode cJ6_bitCount_0f7a4 10 = .ok (.iload_n 0, 1) := by decide +kernel
theorem dJ6_bitCount_0f7a4_11 : decode cJ6_bitCount_0f7a4 11 = .ok (.ldc_w 266, 3) := by decide +kernel
theorem dJ6_bitCount_0f7a4_14 : decode cJ6_bitCount_0f7a4 14 = .ok (.iand, 1) := by decide +kernel
theorem dJ6_bitCount_0f7a4_15 : decode cJ6_bitCount_0f7a4 15 = .ok (.iload_n 0, 1) := by decide +kernel
theorem dJ6_bitCount_0f7a4_16 : decode cJ6_bitCount_0f7a4 16 = .ok (.iconst 2, 1) := by decide +kernel
theorem dJ6_bitCount_0f7a4_17 : decode cJ6_bitCount_0f7a4 17 = .ok (.iushr, 1) := by decide +kernel
theorem dJ6_bitCount_0f7a4_18 : decode cJ6_bitCount_0f7a4 18 = .ok (.ldc_w 266, 3) := by decide +kernel
theorem dJ6_bitCount_0f7a4_21 : decode cJ6_bitCount_0f7a4 21 = .ok (.iand, 1) := by decide +kernel
theorem dJ6_bitCount_0f7a4_22 : decode cJ6_bitCount_0f7a4 22 = .ok (.iadd, 1) := by decide +kernel
theorem dJ6_bitCount_0f7a4_23 : decode cJ6_bitCount_0f7a4 23 = .ok (.istore_n 0, 1) := by decide +kernel
theorem dJ6_bitCount_0f7a4_24 : decode cJ6_bitCount_0f7a4 24 = .ok (.iload_n 0, 1) := by decide +kernel
theorem dJ6_bitCount_0f7a4_25 : decode cJ6_bitCount_0f7a4 25 = .ok (.iload_n 0, 1) := by decide +kernel
theorem dJ6_bitCount_0f7a4_26 : decode cJ6_bitCount_0f7a4 26 = .ok (.iconst 4, 1) := by decide +kernel
theorem dJ6_bitCount_0f7a4_27 : decode cJ6_bitCount_0f7a4 27 = .ok (.iushr, 1) := by decide +kernel
theorem dJ6_bitCount_0f7a4_28 : decode cJ6_bitCount_0f7a4 28 = .ok (.iadd, 1) := by decide +kernel
theorem dJ6_bitCount_0f7a4_29 : decode cJ6_bitCount_0f7a4 29 = .ok (.ldc_w 267, 3) := by decide +kernel
theorem dJ6_bitCount_0f7a4_32 : decode cJ6_bitCount_0f7a4 32 = .ok (.iand, 1) := by decide +kernel
theorem dJ6_bitCount_0f7a4_33 : decode cJ6_bitCount_0f7a4 33 = .ok (.istore_n 0, 1) := by decide +kernel
theorem dJ6_bitCount_0f7a4_34 : decode cJ6_bitCount_0f7a4 34 = .ok (.iload_n 0, 1) := by decide +kernel
theorem dJ6_bitCount_0f7a4_35 : decode cJ6_bitCount_0f7a4 35 = .ok (.iload_n 0, 1) := by decide +kernel
theorem dJ6_bitCount_0f7a4_36 : decode cJ6_bitCount_0f7a4 36 = .ok (.bipush 8, 2) := by decide +kernel
theorem dJ6_bitCount_0f7a4_38 : decode cJ6_bitCount_0f7a4 38 = .ok (.iushr, 1) := by decide +kernel
theorem dJ6_bitCount_0f7a4_39 : decode cJ6_bitCount_0f7a4 39 = .ok (.iadd, 1) := by decide +kernel
theorem dJ6_bitCount_0f7a4_40 : decode cJ6_bitCount_0f7a4 40 = .ok (.istore_n 0, 1) := by decide +kernel
theorem dJ6_bitCount_0f7a4_41 : decode cJ6_bitCount_0f7a4 41 = .ok (.iload_n 0, 1) := by decide +kernel
theorem dJ6_bitCount_0f7a4_42 : decode cJ6_bitCount_0f7a4 42 = .ok (.iload_n 0, 1) := by decide +kernel
theorem dJ6_bitCount_0f7a4_43 : decode cJ6_bitCount_0f7a4 43 = .ok (.bipush 16, 2) := by decide +kernel
theorem dJ6_bitCount_0f7a4_45 : decode cJ6_bitCount_0f7a4 45 = .ok (.iushr, 1) := by decide +kernel
theorem dJ6_bitCount_0f7a4_46 : decode cJ6_bitCount_0f7a4 46 = .ok (.iadd, 1) := by decide +kernel
theorem dJ6_bitCount_0f7a4_47 : decode cJ6_bitCount_0f7a4 47 = .ok (.istore_n 0, 1) := by decide +kernel
theorem dJ6_bitCount_0f7a4_48 : decode cJ6_bitCount_0f7a4 48 = .ok (.iload_n 0, 1) := by decide +kernel
theorem dJ6_bitCount_0f7a4_49 : decode cJ6_bitCount_0f7a4 49 = .ok (.bipush 63, 2) := by decide +kernel
theorem dJ6_bitCount_0f7a4_51 : decode cJ6_bitCount_0f7a4 51 = .ok (.iand, 1) := by decide +kernel
theorem dJ6_bitCount_0f7a4_52 : decode cJ6_bitCount_0f7a4 52 = .ok (.ireturn, 1) := by decide +kernel
theorem dJ9_max_7cf53_0 : decode cJ9_max_7cf53 0 = .ok (.iload_n 0, 1) := by decide +kernel
theorem dJ9_max_7cf53_1 : decode cJ9_max_7cf53 1 = .ok (.iload_n 1, 1) := by decide +kernel
theorem dJ9_max_7cf53_2 : decode cJ9_max_7cf53 2 = .ok (.if_icmp .lt 7, 3) := by decide +kernel
theorem dJ9_max_7cf53_5 : decode cJ9_max_7cf53 5 = .ok (.iload_n 0, 1) := by decide +kernel
theorem dJ9_max_7cf53_6 : decode cJ9_max_7cf53 6 = .ok (.goto 4, 3) := by decide +kernel
theorem dJ9_max_7cf53_9 : decode cJ9_max_7cf53 9 = .ok (.iload_n 1, 1) := by decide +kernel
theorem dJ9_max_7cf53_10 : decode cJ9_max_7cf53 10 = .ok (.ireturn, 1) := by decide +kernel
theorem dJ9_min_7cf53_0 : decode cJ9_min_7cf53 0 = .ok (.iload_n 0, 1) := by decide +kernel
theorem dJ9_min_7cf53_1 : decode cJ9_min_7cf53 1 = .ok (.iload_n 1, 1) := by decide +kernel
theorem dJ9_min_7cf53_2 : decode cJ9_min_7cf53 2 = .ok (.if_icmp .gt 7, 3) := by decide +kernel
theorem dJ9_min_7cf53_5 : decode cJ9_min_7cf53 5 = .ok (.iload_n 0, 1) := by decide +kernel
theorem dJ9_min_7cf53_6 : decode cJ9_min_7cf53 6 = .ok (.goto 4, 3) := by decide +kernel
theorem dJ9_min_7cf53_9 : decode cJ9_min_7cf53 9 = .ok (.iload_n 1, 1) := by decide +kernel
theorem dJ9_min_7cf53_10 : decode cJ9_min_7cf53 10 = .ok (.ireturn, 1) := by decide +kernel
