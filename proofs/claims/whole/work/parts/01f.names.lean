theorem dX6_kinds_51 : decode cX6_kinds 51 = .ok (.ifCond .eq 9, 3) := by decide +kernel
theorem dX6_kinds_54 : decode cX6_kinds 54 = .ok (.iload_n 2, 1) := by decide +kernel
theorem dX6_kinds_55 : decode cX6_kinds 55 = .ok (.iconst 1, 1) := by decide +kernel
theorem dX6_kinds_56 : decode cX6_kinds 56 = .ok (.iload_n 3, 1) := by decide +kernel
theorem dX6_kinds_57 : decode cX6_kinds 57 = .ok (.ishl, 1) := by decide +kernel
theorem dX6_kinds_58 : decode cX6_kinds 58 = .ok (.ior, 1) := by decide +kernel
theorem dX6_kinds_59 : decode cX6_kinds 59 = .ok (.istore_n 2, 1) := by decide +kernel
theorem dX6_kinds_60 : decode cX6_kinds 60 = .ok (.iinc 3 1, 3) := by decide +kernel
theorem dX6_kinds_63 : decode cX6_kinds 63 = .ok (.goto (-46), 3) := by decide +kernel
theorem dX6_kinds_66 : decode cX6_kinds 66 = .ok (.iload_n 2, 1) := by decide +kernel
theorem dX6_kinds_67 : decode cX6_kinds 67 = .ok (.ireturn, 1) := by decide +kernel
set_option maxRecDepth 20000 in
theorem ggX6_winds_X1_isNone : GoodIn wsX6_winds wsX1_isNone := goodIn_r _ [9, 10, 36, 37, 38, 39, 40, 41, 42] (by decide +kernel) (by decide +kernel)
set_option maxRecDepth 20000 in
theorem gX6_winds_X1_isNone : GoodIn wsX6_winds (wsV RX6 102 RX1 yX1_isNone wsX1_isNone) := goodIn_app (goodIn_of _ (by decide +kernel)) ggX6_winds_X1_isNone
set_option maxRecDepth 20000 in
theorem ggX6_winds_X2_areSo : GoodIn wsX6_winds wsX2_areSo := goodIn_r _ [15, 16, 17, 18, 19, 20, 21, 22, 23, 24, 25, 26, 27, 28, 43, 44, 45, 46, 36, 37, 38, 39, 40, 41, 42] (by decide +kernel) (by decide +kernel)
set_option maxRecDepth 20000 in
theorem gX6_winds_X2_areSo : GoodIn wsX6_winds (wsV RX6 170 RX2 yX2_areSo wsX2_areSo) := goodIn_app (goodIn_of _ (by decide +kernel)) ggX6_winds_X2_areSo
theorem dX6_winds_0 : decode cX6_winds 0 = .ok (.aload_n 0, 1) := by decide +kernel
theorem dX6_winds_1 : decode cX6_winds 1 = .ok (.getfield 20, 3) := by decide +kernel
theorem dX6_winds_4 : decode cX6_winds 4 = .ok (.invokevirtual 102, 3) := by decide +kernel
theorem dX6_winds_7 : decode cX6_winds 7 = .ok (.ifCond .eq 6, 3) := by decide +kernel
theorem dX6_winds_10 : decode cX6_winds 10 = .ok (.bipush (-3), 2) := by decide +kernel
theorem dX6_winds_12 : decode cX6_winds 12 = .ok (.ireturn, 1) := by decide +kernel
theorem dX6_winds_13 : decode cX6_winds 13 = .ok (.iconst 0, 1) := by decide +kernel
theorem dX6_winds_14 : decode cX6_winds 14 = .ok (.istore_n 1, 1) := by decide +kernel
theorem dX6_winds_15 : decode cX6_winds 15 = .ok (.iconst 0, 1) := by decide +kernel
theorem dX6_winds_16 : decode cX6_winds 16 = .ok (.istore_n 2, 1) := by decide +kernel
theorem dX6_winds_17 : decode cX6_winds 17 = .ok (.iload_n 2, 1) := by decide +kernel
theorem dX6_winds_18 : decode cX6_winds 18 = .ok (.iconst 3, 1) := by decide +kernel
theorem dX6_winds_19 : decode cX6_winds 19 = .ok (.if_icmp .ge 49, 3) := by decide +kernel
theorem dX6_winds_22 : decode cX6_winds 22 = .ok (.aload_n 0, 1) := by decide +kernel
theorem dX6_winds_23 : decode cX6_winds 23 = .ok (.getfield 27, 3) := by decide +kernel
theorem dX6_winds_26 : decode cX6_winds 26 = .ok (.aload_n 0, 1) := by decide +kernel
theorem dX6_winds_27 : decode cX6_winds 27 = .ok (.getfield 20, 3) := by decide +kernel
theorem dX6_winds_30 : decode cX6_winds 30 = .ok (.iconst 0, 1) := by decide +kernel
theorem dX6_winds_31 : decode cX6_winds 31 = .ok (.aload_n 0, 1) := by decide +kernel
theorem dX6_winds_32 : decode cX6_winds 32 = .ok (.getfield 20, 3) := by decide +kernel
theorem dX6_winds_35 : decode cX6_winds 35 = .ok (.getfield 85, 3) := by decide +kernel
theorem dX6_winds_38 : decode cX6_winds 38 = .ok (.iconst 0, 1) := by decide +kernel
theorem dX6_winds_39 : decode cX6_winds 39 = .ok (.iaload, 1) := by decide +kernel
theorem dX6_winds_40 : decode cX6_winds 40 = .ok (.aload_n 0, 1) := by decide +kernel
theorem dX6_winds_41 : decode cX6_winds 41 = .ok (.getfield 20, 3) := by decide +kernel
theorem dX6_winds_44 : decode cX6_winds 44 = .ok (.getfield 89, 3) := by decide +kernel
theorem dX6_winds_47 : decode cX6_winds 47 = .ok (.iconst 0, 1) := by decide +kernel
theorem dX6_winds_48 : decode cX6_winds 48 = .ok (.iaload, 1) := by decide +kernel
theorem dX6_winds_49 : decode cX6_winds 49 = .ok (.iload_n 2, 1) := by decide +kernel
theorem dX6_winds_50 : decode cX6_winds 50 = .ok (.invokevirtual 170, 3) := by decide +kernel
theorem dX6_winds_53 : decode cX6_winds 53 = .ok (.ifCond .eq 9, 3) := by decide +kernel
theorem dX6_winds_56 : decode cX6_winds 56 = .ok (.iload_n 1, 1) := by decide +kernel
theorem dX6_winds_57 : decode cX6_winds 57 = .ok (.iconst 1, 1) := by decide +kernel
theorem dX6_winds_58 : decode cX6_winds 58 = .ok (.iload_n 2, 1) := by decide +kernel
theorem dX6_winds_59 : decode cX6_winds 59 = .ok (.ishl, 1) := by decide +kernel
theorem dX6_winds_60 : decode cX6_winds 60 = .ok (.ior, 1) := by decide +kernel
theorem dX6_winds_61 : decode cX6_winds 61 = .ok (.istore_n 1, 1) := by decide +kernel
theorem dX6_winds_62 : decode cX6_winds 62 = .ok (.iinc 2 1, 3) := by decide +kernel
theorem dX6_winds_65 : decode cX6_winds 65 = .ok (.goto (-48), 3) := by decide +kernel
theorem dX6_winds_68 : decode cX6_winds 68 = .ok (.iload_n 1, 1) := by decide +kernel
theorem dX6_winds_69 : decode cX6_winds 69 = .ok (.ireturn, 1) := by decide +kernel
set_option maxRecDepth 20000 in
theorem ggX6_odds_X6_isBelow : GoodIn wsX6_odds wsX6_isBelow := goodIn_r _ [7] (by decide +kernel) (by decide +kernel)
set_option maxRecDepth 20000 in
theorem gX6_odds_X6_isBelow : GoodIn wsX6_odds (va_wsS RX6 53 yX6_isBelow wsX6_isBelow) := goodIn_app (goodIn_of _ (by decide +kernel)) ggX6_odds_X6_isBelow
set_option maxRecDepth 20000 in
theorem ggX6_odds_X1_isNone : GoodIn wsX6_odds wsX1_isNone := goodIn_r _ [12, 13, 52, 53, 54, 55, 56, 57, 58] (by decide +kernel) (by decide +kernel)
set_option maxRecDepth 20000 in
theorem gX6_odds_X1_isNone : GoodIn wsX6_odds (wsV RX6 102 RX1 yX1_isNone wsX1_isNone) := goodIn_app (goodIn_of _ (by decide +kernel)) ggX6_odds_X1_isNone
set_option maxRecDepth 20000 in
theorem ggX6_odds_X1_isHeard : GoodIn wsX6_odds wsX1_isHeard := goodIn_r _ [17, 18, 19, 20, 21, 11, 22, 23, 24, 25, 26, 27, 28, 29, 30, 52, 53, 54, 55, 56, 57, 58] (by decide +kernel) (by decide +kernel)
set_option maxRecDepth 20000 in
theorem gX6_odds_X1_isHeard : GoodIn wsX6_odds (wsV RX6 125 RX1 yX1_isHeard wsX1_isHeard) := goodIn_app (goodIn_of _ (by decide +kernel)) ggX6_odds_X1_isHeard
set_option maxRecDepth 20000 in
theorem ggX6_odds_X1_moodsSounding : GoodIn wsX6_odds wsX1_moodsSounding := goodIn_r _ [34, 35, 36, 37, 11, 38, 39, 40, 41, 42, 6, 43, 44, 29, 25, 30, 52, 53, 54, 55, 56, 57, 58] (by decide +kernel) (by decide +kernel)
set_option maxRecDepth 20000 in
theorem gX6_odds_X1_moodsSounding : GoodIn wsX6_odds (wsV RX6 128 RX1 yX1_moodsSounding wsX1_moodsSounding) := goodIn_app (goodIn_of _ (by decide +kernel)) ggX6_odds_X1_moodsSounding
theorem dX6_odds_0 : decode cX6_odds 0 = .ok (.iload_n 1, 1) := by decide +kernel
theorem dX6_odds_1 : decode cX6_odds 1 = .ok (.bipush 10, 2) := by decide +kernel
theorem dX6_odds_3 : decode cX6_odds 3 = .ok (.invokestatic 53, 3) := by decide +kernel
theorem dX6_odds_6 : decode cX6_odds 6 = .ok (.ifCond .eq 20, 3) := by decide +kernel
theorem dX6_odds_9 : decode cX6_odds 9 = .ok (.iload_n 2, 1) := by decide +kernel
theorem dX6_odds_10 : decode cX6_odds 10 = .ok (.bipush 20, 2) := by decide +kernel
theorem dX6_odds_12 : decode cX6_odds 12 = .ok (.invokestatic 53, 3) := by decide +kernel
theorem dX6_odds_15 : decode cX6_odds 15 = .ok (.ifCond .eq 11, 3) := by decide +kernel
theorem dX6_odds_18 : decode cX6_odds 18 = .ok (.iload_n 3, 1) := by decide +kernel
theorem dX6_odds_19 : decode cX6_odds 19 = .ok (.iconst 2, 1) := by decide +kernel
theorem dX6_odds_20 : decode cX6_odds 20 = .ok (.invokestatic 53, 3) := by decide +kernel
theorem dX6_odds_23 : decode cX6_odds 23 = .ok (.ifCond .ne 7, 3) := by decide +kernel
theorem dX6_odds_26 : decode cX6_odds 26 = .ok (.ldc2_w 174, 3) := by decide +kernel
theorem dX6_odds_29 : decode cX6_odds 29 = .ok (.lreturn, 1) := by decide +kernel
theorem dX6_odds_30 : decode cX6_odds 30 = .ok (.aload_n 0, 1) := by decide +kernel
theorem dX6_odds_31 : decode cX6_odds 31 = .ok (.getfield 20, 3) := by decide +kernel
theorem dX6_odds_34 : decode cX6_odds 34 = .ok (.invokevirtual 102, 3) := by decide +kernel
theorem dX6_odds_37 : decode cX6_odds 37 = .ok (.ifCond .eq 7, 3) := by decide +kernel
theorem dX6_odds_40 : decode cX6_odds 40 = .ok (.ldc2_w 174, 3) := by decide +kernel
theorem dX6_odds_43 : decode cX6_odds 43 = .ok (.lreturn, 1) := by decide +kernel
theorem dX6_odds_44 : decode cX6_odds 44 = .ok (.iconst 1, 1) := by decide +kernel
theorem dX6_odds_45 : decode cX6_odds 45 = .ok (.istore 4, 2) := by decide +kernel
theorem dX6_odds_47 : decode cX6_odds 47 = .ok (.iconst 1, 1) := by decide +kernel
theorem dX6_odds_48 : decode cX6_odds 48 = .ok (.istore 5, 2) := by decide +kernel
theorem dX6_odds_50 : decode cX6_odds 50 = .ok (.iconst 0, 1) := by decide +kernel
theorem dX6_odds_51 : decode cX6_odds 51 = .ok (.istore 6, 2) := by decide +kernel
theorem dX6_odds_53 : decode cX6_odds 53 = .ok (.iload 6, 2) := by decide +kernel
theorem dX6_odds_55 : decode cX6_odds 55 = .ok (.aload_n 0, 1) := by decide +kernel
theorem dX6_odds_56 : decode cX6_odds 56 = .ok (.getfield 20, 3) := by decide +kernel
theorem dX6_odds_59 : decode cX6_odds 59 = .ok (.getfield 80, 3) := by decide +kernel
theorem dX6_odds_62 : decode cX6_odds 62 = .ok (.if_icmp .ge 45, 3) := by decide +kernel
theorem dX6_odds_65 : decode cX6_odds 65 = .ok (.aload_n 0, 1) := by decide +kernel
theorem dX6_odds_66 : decode cX6_odds 66 = .ok (.getfield 20, 3) := by decide +kernel
theorem dX6_odds_69 : decode cX6_odds 69 = .ok (.iload 6, 2) := by decide +kernel
theorem dX6_odds_71 : decode cX6_odds 71 = .ok (.iload_n 1, 1) := by decide +kernel
theorem dX6_odds_72 : decode cX6_odds 72 = .ok (.invokevirtual 125, 3) := by decide +kernel
theorem dX6_odds_75 : decode cX6_odds 75 = .ok (.ifCond .eq 26, 3) := by decide +kernel
theorem dX6_odds_78 : decode cX6_odds 78 = .ok (.iload 4, 2) := by decide +kernel
theorem dX6_odds_80 : decode cX6_odds 80 = .ok (.iconst 4, 1) := by decide +kernel
theorem dX6_odds_81 : decode cX6_odds 81 = .ok (.imul, 1) := by decide +kernel
theorem dX6_odds_82 : decode cX6_odds 82 = .ok (.istore 4, 2) := by decide +kernel
theorem dX6_odds_84 : decode cX6_odds 84 = .ok (.iload 5, 2) := by decide +kernel
theorem dX6_odds_86 : decode cX6_odds 86 = .ok (.iconst 4, 1) := by decide +kernel
theorem dX6_odds_87 : decode cX6_odds 87 = .ok (.aload_n 0, 1) := by decide +kernel
theorem dX6_odds_88 : decode cX6_odds 88 = .ok (.getfield 20, 3) := by decide +kernel
theorem dX6_odds_91 : decode cX6_odds 91 = .ok (.iload 6, 2) := by decide +kernel
theorem dX6_odds_93 : decode cX6_odds 93 = .ok (.iload_n 2, 1) := by decide +kernel
theorem dX6_odds_94 : decode cX6_odds 94 = .ok (.invokevirtual 128, 3) := by decide +kernel
theorem dX6_odds_97 : decode cX6_odds 97 = .ok (.isub, 1) := by decide +kernel
theorem dX6_odds_98 : decode cX6_odds 98 = .ok (.imul, 1) := by decide +kernel
theorem dX6_odds_99 : decode cX6_odds 99 = .ok (.istore 5, 2) := by decide +kernel
theorem dX6_odds_101 : decode cX6_odds 101 = .ok (.iinc 6 1, 3) := by decide +kernel
theorem dX6_odds_104 : decode cX6_odds 104 = .ok (.goto (-51), 3) := by decide +kernel
theorem dX6_odds_107 : decode cX6_odds 107 = .ok (.iload 4, 2) := by decide +kernel
theorem dX6_odds_109 : decode cX6_odds 109 = .ok (.iload 5, 2) := by decide +kernel
theorem dX6_odds_111 : decode cX6_odds 111 = .ok (.isub, 1) := by decide +kernel
theorem dX6_odds_112 : decode cX6_odds 112 = .ok (.istore 6, 2) := by decide +kernel
theorem dX6_odds_114 : decode cX6_odds 114 = .ok (.iload 4, 2) := by decide +kernel
theorem dX6_odds_116 : decode cX6_odds 116 = .ok (.iconst 1, 1) := by decide +kernel
theorem dX6_odds_117 : decode cX6_odds 117 = .ok (.if_icmp .le 25, 3) := by decide +kernel
theorem dX6_odds_120 : decode cX6_odds 120 = .ok (.iload 6, 2) := by decide +kernel
theorem dX6_odds_122 : decode cX6_odds 122 = .ok (.iconst 2, 1) := by decide +kernel
theorem dX6_odds_123 : decode cX6_odds 123 = .ok (.irem, 1) := by decide +kernel
theorem dX6_odds_124 : decode cX6_odds 124 = .ok (.ifCond .ne 18, 3) := by decide +kernel
theorem dX6_odds_127 : decode cX6_odds 127 = .ok (.iload 6, 2) := by decide +kernel
theorem dX6_odds_129 : decode cX6_odds 129 = .ok (.iconst 2, 1) := by decide +kernel
theorem dX6_odds_130 : decode cX6_odds 130 = .ok (.idiv, 1) := by decide +kernel
theorem dX6_odds_131 : decode cX6_odds 131 = .ok (.istore 6, 2) := by decide +kernel
theorem dX6_odds_133 : decode cX6_odds 133 = .ok (.iload 4, 2) := by decide +kernel
theorem dX6_odds_135 : decode cX6_odds 135 = .ok (.iconst 2, 1) := by decide +kernel
theorem dX6_odds_136 : decode cX6_odds 136 = .ok (.idiv, 1) := by decide +kernel
theorem dX6_odds_137 : decode cX6_odds 137 = .ok (.istore 4, 2) := by decide +kernel
theorem dX6_odds_139 : decode cX6_odds 139 = .ok (.goto (-25), 3) := by decide +kernel
theorem dX6_odds_142 : decode cX6_odds 142 = .ok (.iload_n 3, 1) := by decide +kernel
theorem dX6_odds_143 : decode cX6_odds 143 = .ok (.ifCond .ne 9, 3) := by decide +kernel
theorem dX6_odds_146 : decode cX6_odds 146 = .ok (.iload 6, 2) := by decide +kernel
theorem dX6_odds_148 : decode cX6_odds 148 = .ok (.i2l, 1) := by decide +kernel
theorem dX6_odds_149 : decode cX6_odds 149 = .ok (.goto 6, 3) := by decide +kernel
theorem dX6_odds_152 : decode cX6_odds 152 = .ok (.iload 4, 2) := by decide +kernel
theorem dX6_odds_154 : decode cX6_odds 154 = .ok (.i2l, 1) := by decide +kernel
theorem dX6_odds_155 : decode cX6_odds 155 = .ok (.lreturn, 1) := by decide +kernel
set_option maxRecDepth 20000 in
theorem ggX6_sheet_X6_isBelow : GoodIn wsX6_sheet wsX6_isBelow := goodIn_r _ [6] (by decide +kernel) (by decide +kernel)
set_option maxRecDepth 20000 in
theorem gX6_sheet_X6_isBelow : GoodIn wsX6_sheet (va_wsS RX6 53 yX6_isBelow wsX6_isBelow) := goodIn_app (goodIn_of _ (by decide +kernel)) ggX6_sheet_X6_isBelow
set_option maxRecDepth 20000 in
theorem ggX6_sheet_X6_failBy : GoodIn wsX6_sheet wsX6_failBy := goodIn_r _ [10, 1, 19, 20, 21, 22, 23, 24, 25] (by decide +kernel) (by decide +kernel)
set_option maxRecDepth 20000 in
theorem gX6_sheet_X6_failBy : GoodIn wsX6_sheet (wsV RX6 61 RX6 yX6_failBy wsX6_failBy) := goodIn_app (goodIn_of _ (by decide +kernel)) ggX6_sheet_X6_failBy
set_option maxRecDepth 20000 in
theorem ggX6_sheet_X3_renew : GoodIn wsX6_sheet wsX3_renew := goodIn_r _ [15, 16, 17, 18, 26, 27, 28] (by decide +kernel) (by decide +kernel)
set_option maxRecDepth 20000 in
theorem gX6_sheet_X3_renew : GoodIn wsX6_sheet (wsV RX6 176 RX3 yX3_renew wsX3_renew) := goodIn_app (goodIn_of _ (by decide +kernel)) ggX6_sheet_X3_renew
theorem dX6_sheet_0 : decode cX6_sheet 0 = .ok (.aload_n 0, 1) := by decide +kernel
theorem dX6_sheet_1 : decode cX6_sheet 1 = .ok (.iconst 0, 1) := by decide +kernel
theorem dX6_sheet_2 : decode cX6_sheet 2 = .ok (.putfield 49, 3) := by decide +kernel
theorem dX6_sheet_5 : decode cX6_sheet 5 = .ok (.iload_n 1, 1) := by decide +kernel
theorem dX6_sheet_6 : decode cX6_sheet 6 = .ok (.iconst 4, 1) := by decide +kernel
theorem dX6_sheet_7 : decode cX6_sheet 7 = .ok (.invokestatic 53, 3) := by decide +kernel
theorem dX6_sheet_10 : decode cX6_sheet 10 = .ok (.ifCond .ne 5, 3) := by decide +kernel
theorem dX6_sheet_13 : decode cX6_sheet 13 = .ok (.iconst (-1), 1) := by decide +kernel
theorem dX6_sheet_14 : decode cX6_sheet 14 = .ok (.ireturn, 1) := by decide +kernel
theorem dX6_sheet_15 : decode cX6_sheet 15 = .ok (.iload_n 2, 1) := by decide +kernel
theorem dX6_sheet_16 : decode cX6_sheet 16 = .ok (.iconst 3, 1) := by decide +kernel
theorem dX6_sheet_17 : decode cX6_sheet 17 = .ok (.invokestatic 53, 3) := by decide +kernel
theorem dX6_sheet_20 : decode cX6_sheet 20 = .ok (.ifCond .eq 9, 3) := by decide +kernel
theorem dX6_sheet_23 : decode cX6_sheet 23 = .ok (.iload_n 3, 1) := by decide +kernel
theorem dX6_sheet_24 : decode cX6_sheet 24 = .ok (.bipush 60, 2) := by decide +kernel
theorem dX6_sheet_26 : decode cX6_sheet 26 = .ok (.if_icmp .le 6, 3) := by decide +kernel
theorem dX6_sheet_29 : decode cX6_sheet 29 = .ok (.bipush (-2), 2) := by decide +kernel
theorem dX6_sheet_31 : decode cX6_sheet 31 = .ok (.ireturn, 1) := by decide +kernel
theorem dX6_sheet_32 : decode cX6_sheet 32 = .ok (.iload_n 3, 1) := by decide +kernel
theorem dX6_sheet_33 : decode cX6_sheet 33 = .ok (.ifCond .ge 9, 3) := by decide +kernel
theorem dX6_sheet_36 : decode cX6_sheet 36 = .ok (.aload_n 0, 1) := by decide +kernel
theorem dX6_sheet_37 : decode cX6_sheet 37 = .ok (.iconst 4, 1) := by decide +kernel
theorem dX6_sheet_38 : decode cX6_sheet 38 = .ok (.invokevirtual 61, 3) := by decide +kernel
theorem dX6_sheet_41 : decode cX6_sheet 41 = .ok (.ireturn, 1) := by decide +kernel
theorem dX6_sheet_42 : decode cX6_sheet 42 = .ok (.aload_n 0, 1) := by decide +kernel
theorem dX6_sheet_43 : decode cX6_sheet 43 = .ok (.getfield 13, 3) := by decide +kernel
theorem dX6_sheet_46 : decode cX6_sheet 46 = .ok (.iload_n 1, 1) := by decide +kernel
theorem dX6_sheet_47 : decode cX6_sheet 47 = .ok (.aaload, 1) := by decide +kernel
theorem dX6_sheet_48 : decode cX6_sheet 48 = .ok (.iload_n 2, 1) := by decide +kernel
theorem dX6_sheet_49 : decode cX6_sheet 49 = .ok (.iload_n 3, 1) := by decide +kernel
theorem dX6_sheet_50 : decode cX6_sheet 50 = .ok (.invokevirtual 176, 3) := by decide +kernel
theorem dX6_sheet_53 : decode cX6_sheet 53 = .ok (.iconst 1, 1) := by decide +kernel
theorem dX6_sheet_54 : decode cX6_sheet 54 = .ok (.ireturn, 1) := by decide +kernel
set_option maxRecDepth 20000 in
theorem ggX6_lose_X6_isBelow : GoodIn wsX6_lose wsX6_isBelow := goodIn_r _ [5] (by decide +kernel) (by decide +kernel)
set_option maxRecDepth 20000 in
theorem gX6_lose_X6_isBelow : GoodIn wsX6_lose (va_wsS RX6 53 yX6_isBelow wsX6_isBelow) := goodIn_app (goodIn_of _ (by decide +kernel)) ggX6_lose_X6_isBelow
set_option maxRecDepth 20000 in
theorem ggX6_lose_X3_hasNothing : GoodIn wsX6_lose wsX3_hasNothing := goodIn_r _ [10, 11, 24, 25, 26] (by decide +kernel) (by decide +kernel)
set_option maxRecDepth 20000 in
theorem gX6_lose_X3_hasNothing : GoodIn wsX6_lose (wsV RX6 180 RX3 yX3_hasNothing wsX3_hasNothing) := goodIn_app (goodIn_of _ (by decide +kernel)) ggX6_lose_X3_hasNothing
set_option maxRecDepth 20000 in
theorem ggX6_lose_X3_drop : GoodIn wsX6_lose wsX3_drop := goodIn_r _ [15, 11, 16, 24, 25, 26] (by decide +kernel) (by decide +kernel)
set_option maxRecDepth 20000 in
theorem gX6_lose_X3_drop : GoodIn wsX6_lose (wsV RX6 183 RX3 yX3_drop wsX3_drop) := goodIn_app (goodIn_of _ (by decide +kernel)) ggX6_lose_X3_drop
theorem dX6_lose_0 : decode cX6_lose 0 = .ok (.iload_n 1, 1) := by decide +kernel
theorem dX6_lose_1 : decode cX6_lose 1 = .ok (.iconst 4, 1) := by decide +kernel
theorem dX6_lose_2 : decode cX6_lose 2 = .ok (.invokestatic 53, 3) := by decide +kernel
theorem dX6_lose_5 : decode cX6_lose 5 = .ok (.ifCond .ne 5, 3) := by decide +kernel
theorem dX6_lose_8 : decode cX6_lose 8 = .ok (.iconst (-1), 1) := by decide +kernel
theorem dX6_lose_9 : decode cX6_lose 9 = .ok (.ireturn, 1) := by decide +kernel
theorem dX6_lose_10 : decode cX6_lose 10 = .ok (.aload_n 0, 1) := by decide +kernel
theorem dX6_lose_11 : decode cX6_lose 11 = .ok (.getfield 13, 3) := by decide +kernel
theorem dX6_lose_14 : decode cX6_lose 14 = .ok (.iload_n 1, 1) := by decide +kernel
theorem dX6_lose_15 : decode cX6_lose 15 = .ok (.aaload, 1) := by decide +kernel
theorem dX6_lose_16 : decode cX6_lose 16 = .ok (.invokevirtual 180, 3) := by decide +kernel
theorem dX6_lose_19 : decode cX6_lose 19 = .ok (.ifCond .eq 5, 3) := by decide +kernel
theorem dX6_lose_22 : decode cX6_lose 22 = .ok (.iconst 0, 1) := by decide +kernel
theorem dX6_lose_23 : decode cX6_lose 23 = .ok (.ireturn, 1) := by decide +kernel
theorem dX6_lose_24 : decode cX6_lose 24 = .ok (.aload_n 0, 1) := by decide +kernel
theorem dX6_lose_25 : decode cX6_lose 25 = .ok (.getfield 13, 3) := by decide +kernel
theorem dX6_lose_28 : decode cX6_lose 28 = .ok (.iload_n 1, 1) := by decide +kernel
theorem dX6_lose_29 : decode cX6_lose 29 = .ok (.aaload, 1) := by decide +kernel
theorem dX6_lose_30 : decode cX6_lose 30 = .ok (.invokevirtual 183, 3) := by decide +kernel
theorem dX6_lose_33 : decode cX6_lose 33 = .ok (.iconst 1, 1) := by decide +kernel
theorem dX6_lose_34 : decode cX6_lose 34 = .ok (.ireturn, 1) := by decide +kernel
set_option maxRecDepth 20000 in
theorem ggX6_put_X6_isBelow : GoodIn wsX6_put wsX6_isBelow := goodIn_r _ [6] (by decide +kernel) (by decide +kernel)
set_option maxRecDepth 20000 in
theorem gX6_put_X6_isBelow : GoodIn wsX6_put (va_wsS RX6 53 yX6_isBelow wsX6_isBelow) := goodIn_app (goodIn_of _ (by decide +kernel)) ggX6_put_X6_isBelow
set_option maxRecDepth 20000 in
theorem ggX6_put_X3_hasNothing : GoodIn wsX6_put wsX3_hasNothing := goodIn_r _ [11, 12, 34, 35, 36] (by decide +kernel) (by decide +kernel)
set_option maxRecDepth 20000 in
theorem gX6_put_X3_hasNothing : GoodIn wsX6_put (wsV RX6 180 RX3 yX3_hasNothing wsX3_hasNothing) := goodIn_app (goodIn_of _ (by decide +kernel)) ggX6_put_X3_hasNothing
set_option maxRecDepth 20000 in
theorem ggX6_put_X6_failBy : GoodIn wsX6_put wsX6_failBy := goodIn_r _ [16, 1, 27, 28, 29, 30, 31, 32, 33] (by decide +kernel) (by decide +kernel)
set_option maxRecDepth 20000 in
theorem gX6_put_X6_failBy : GoodIn wsX6_put (wsV RX6 61 RX6 yX6_failBy wsX6_failBy) := goodIn_app (goodIn_of _ (by decide +kernel)) ggX6_put_X6_failBy
set_option maxRecDepth 20000 in
theorem ggX6_put_X3_hasCells : GoodIn wsX6_put wsX3_hasCells := goodIn_r _ [20, 21, 34, 35, 36] (by decide +kernel) (by decide +kernel)
set_option maxRecDepth 20000 in
theorem gX6_put_X3_hasCells : GoodIn wsX6_put (wsV RX6 64 RX3 yX3_hasCells wsX3_hasCells) := goodIn_app (goodIn_of _ (by decide +kernel)) ggX6_put_X3_hasCells
set_option maxRecDepth 20000 in
theorem ggX6_put_X3_write : GoodIn wsX6_put wsX3_write := goodIn_r _ [25, 12, 26, 34, 35, 36] (by decide +kernel) (by decide +kernel)
set_option maxRecDepth 20000 in
theorem gX6_put_X3_write : GoodIn wsX6_put (wsV RX6 186 RX3 yX3_write wsX3_write) := goodIn_app (goodIn_of _ (by decide +kernel)) ggX6_put_X3_write
theorem dX6_put_0 : decode cX6_put 0 = .ok (.aload_n 0, 1) := by decide +kernel
theorem dX6_put_1 : decode cX6_put 1 = .ok (.iconst 0, 1) := by decide +kernel
theorem dX6_put_2 : decode cX6_put 2 = .ok (.putfield 49, 3) := by decide +kernel
theorem dX6_put_5 : decode cX6_put 5 = .ok (.iload_n 1, 1) := by decide +kernel
theorem dX6_put_6 : decode cX6_put 6 = .ok (.iconst 4, 1) := by decide +kernel
theorem dX6_put_7 : decode cX6_put 7 = .ok (.invokestatic 53, 3) := by decide +kernel
theorem dX6_put_10 : decode cX6_put 10 = .ok (.ifCond .ne 5, 3) := by decide +kernel
theorem dX6_put_13 : decode cX6_put 13 = .ok (.iconst (-1), 1) := by decide +kernel
theorem dX6_put_14 : decode cX6_put 14 = .ok (.ireturn, 1) := by decide +kernel
theorem dX6_put_15 : decode cX6_put 15 = .ok (.aload_n 0, 1) := by decide +kernel
theorem dX6_put_16 : decode cX6_put 16 = .ok (.getfield 13, 3) := by decide +kernel
theorem dX6_put_19 : decode cX6_put 19 = .ok (.iload_n 1, 1) := by decide +kernel
theorem dX6_put_20 : decode cX6_put 20 = .ok (.aaload, 1) := by decide +kernel
theorem dX6_put_21 : decode cX6_put 21 = .ok (.invokevirtual 180, 3) := by decide +kernel
theorem dX6_put_24 : decode cX6_put 24 = .ok (.ifCond .eq 9, 3) := by decide +kernel
theorem dX6_put_27 : decode cX6_put 27 = .ok (.aload_n 0, 1) := by decide +kernel
theorem dX6_put_28 : decode cX6_put 28 = .ok (.iconst 1, 1) := by decide +kernel
theorem dX6_put_29 : decode cX6_put 29 = .ok (.invokevirtual 61, 3) := by decide +kernel
theorem dX6_put_32 : decode cX6_put 32 = .ok (.ireturn, 1) := by decide +kernel
theorem dX6_put_33 : decode cX6_put 33 = .ok (.aload_n 0, 1) := by decide +kernel
theorem dX6_put_34 : decode cX6_put 34 = .ok (.getfield 13, 3) := by decide +kernel
theorem dX6_put_37 : decode cX6_put 37 = .ok (.iload_n 1, 1) := by decide +kernel
theorem dX6_put_38 : decode cX6_put 38 = .ok (.aaload, 1) := by decide +kernel
theorem dX6_put_39 : decode cX6_put 39 = .ok (.iload_n 2, 1) := by decide +kernel
theorem dX6_put_40 : decode cX6_put 40 = .ok (.iconst 1, 1) := by decide +kernel
theorem dX6_put_41 : decode cX6_put 41 = .ok (.invokevirtual 64, 3) := by decide +kernel
theorem dX6_put_44 : decode cX6_put 44 = .ok (.ifCond .ne 9, 3) := by decide +kernel
theorem dX6_put_47 : decode cX6_put 47 = .ok (.aload_n 0, 1) := by decide +kernel
theorem dX6_put_48 : decode cX6_put 48 = .ok (.iconst 3, 1) := by decide +kernel
theorem dX6_put_49 : decode cX6_put 49 = .ok (.invokevirtual 61, 3) := by decide +kernel
theorem dX6_put_52 : decode cX6_put 52 = .ok (.ireturn, 1) := by decide +kernel
theorem dX6_put_53 : decode cX6_put 53 = .ok (.aload_n 0, 1) := by decide +kernel
theorem dX6_put_54 : decode cX6_put 54 = .ok (.getfield 13, 3) := by decide +kernel
theorem dX6_put_57 : decode cX6_put 57 = .ok (.iload_n 1, 1) := by decide +kernel
theorem dX6_put_58 : decode cX6_put 58 = .ok (.aaload, 1) := by decide +kernel
theorem dX6_put_59 : decode cX6_put 59 = .ok (.iload_n 2, 1) := by decide +kernel
theorem dX6_put_60 : decode cX6_put 60 = .ok (.iload_n 3, 1) := by decide +kernel
theorem dX6_put_61 : decode cX6_put 61 = .ok (.invokevirtual 186, 3) := by decide +kernel
theorem dX6_put_64 : decode cX6_put 64 = .ok (.iconst 1, 1) := by decide +kernel
theorem dX6_put_65 : decode cX6_put 65 = .ok (.ireturn, 1) := by decide +kernel
set_option maxRecDepth 20000 in
theorem ggX6_cell_X6_isBelow : GoodIn wsX6_cell wsX6_isBelow := goodIn_r _ [8] (by decide +kernel) (by decide +kernel)
set_option maxRecDepth 20000 in
theorem gX6_cell_X6_isBelow : GoodIn wsX6_cell (va_wsS RX6 53 yX6_isBelow wsX6_isBelow) := goodIn_app (goodIn_of _ (by decide +kernel)) ggX6_cell_X6_isBelow
set_option maxRecDepth 20000 in
theorem ggX6_cell_X3_faultAs : GoodIn wsX6_cell wsX3_faultAs := goodIn_r _ [13, 14, 15, 16, 17, 12, 18, 31, 32, 33] (by decide +kernel) (by decide +kernel)
set_option maxRecDepth 20000 in
theorem gX6_cell_X3_faultAs : GoodIn wsX6_cell (wsV RX6 57 RX3 yX3_faultAs wsX3_faultAs) := goodIn_app (goodIn_of _ (by decide +kernel)) ggX6_cell_X3_faultAs
set_option maxRecDepth 20000 in
theorem ggX6_cell_X3_hasCells : GoodIn wsX6_cell wsX3_hasCells := goodIn_r _ [22, 23, 31, 32, 33] (by decide +kernel) (by decide +kernel)
set_option maxRecDepth 20000 in
theorem gX6_cell_X3_hasCells : GoodIn wsX6_cell (wsV RX6 64 RX3 yX3_hasCells wsX3_hasCells) := goodIn_app (goodIn_of _ (by decide +kernel)) ggX6_cell_X3_hasCells
theorem dX6_cell_0 : decode cX6_cell 0 = .ok (.aload_n 0, 1) := by decide +kernel
theorem dX6_cell_1 : decode cX6_cell 1 = .ok (.iconst 0, 1) := by decide +kernel
theorem dX6_cell_2 : decode cX6_cell 2 = .ok (.putfield 49, 3) := by decide +kernel
theorem dX6_cell_5 : decode cX6_cell 5 = .ok (.iload_n 1, 1) := by decide +kernel
theorem dX6_cell_6 : decode cX6_cell 6 = .ok (.iconst 4, 1) := by decide +kernel
theorem dX6_cell_7 : decode cX6_cell 7 = .ok (.invokestatic 53, 3) := by decide +kernel
theorem dX6_cell_10 : decode cX6_cell 10 = .ok (.ifCond .eq 11, 3) := by decide +kernel
theorem dX6_cell_13 : decode cX6_cell 13 = .ok (.iload_n 3, 1) := by decide +kernel
theorem dX6_cell_14 : decode cX6_cell 14 = .ok (.iconst 3, 1) := by decide +kernel
theorem dX6_cell_15 : decode cX6_cell 15 = .ok (.invokestatic 53, 3) := by decide +kernel
theorem dX6_cell_18 : decode cX6_cell 18 = .ok (.ifCond .ne 7, 3) := by decide +kernel
theorem dX6_cell_21 : decode cX6_cell 21 = .ok (.ldc2_w 174, 3) := by decide +kernel
theorem dX6_cell_24 : decode cX6_cell 24 = .ok (.lreturn, 1) := by decide +kernel
theorem dX6_cell_25 : decode cX6_cell 25 = .ok (.aload_n 0, 1) := by decide +kernel
theorem dX6_cell_26 : decode cX6_cell 26 = .ok (.getfield 13, 3) := by decide +kernel
theorem dX6_cell_29 : decode cX6_cell 29 = .ok (.iload_n 1, 1) := by decide +kernel
theorem dX6_cell_30 : decode cX6_cell 30 = .ok (.aaload, 1) := by decide +kernel
theorem dX6_cell_31 : decode cX6_cell 31 = .ok (.iload_n 3, 1) := by decide +kernel
theorem dX6_cell_32 : decode cX6_cell 32 = .ok (.invokevirtual 57, 3) := by decide +kernel
theorem dX6_cell_35 : decode cX6_cell 35 = .ok (.istore 4, 2) := by decide +kernel
theorem dX6_cell_37 : decode cX6_cell 37 = .ok (.iload 4, 2) := by decide +kernel
theorem dX6_cell_39 : decode cX6_cell 39 = .ok (.ifCond .ne 20, 3) := by decide +kernel
theorem dX6_cell_42 : decode cX6_cell 42 = .ok (.aload_n 0, 1) := by decide +kernel
theorem dX6_cell_43 : decode cX6_cell 43 = .ok (.getfield 13, 3) := by decide +kernel
theorem dX6_cell_46 : decode cX6_cell 46 = .ok (.iload_n 1, 1) := by decide +kernel
theorem dX6_cell_47 : decode cX6_cell 47 = .ok (.aaload, 1) := by decide +kernel
theorem dX6_cell_48 : decode cX6_cell 48 = .ok (.iload_n 2, 1) := by decide +kernel
theorem dX6_cell_49 : decode cX6_cell 49 = .ok (.iconst 1, 1) := by decide +kernel
theorem dX6_cell_50 : decode cX6_cell 50 = .ok (.invokevirtual 64, 3) := by decide +kernel
theorem dX6_cell_53 : decode cX6_cell 53 = .ok (.ifCond .ne 6, 3) := by decide +kernel
theorem dX6_cell_56 : decode cX6_cell 56 = .ok (.iconst 3, 1) := by decide +kernel
theorem dX6_cell_57 : decode cX6_cell 57 = .ok (.istore 4, 2) := by decide +kernel
theorem dX6_cell_59 : decode cX6_cell 59 = .ok (.iload 4, 2) := by decide +kernel
theorem dX6_cell_61 : decode cX6_cell 61 = .ok (.ifCond .eq 13, 3) := by decide +kernel
theorem dX6_cell_64 : decode cX6_cell 64 = .ok (.aload_n 0, 1) := by decide +kernel
theorem dX6_cell_65 : decode cX6_cell 65 = .ok (.iload 4, 2) := by decide +kernel
theorem dX6_cell_67 : decode cX6_cell 67 = .ok (.putfield 49, 3) := by decide +kernel
theorem dX6_cell_70 : decode cX6_cell 70 = .ok (.ldc2_w 174, 3) := by decide +kernel
theorem dX6_cell_73 : decode cX6_cell 73 = .ok (.lreturn, 1) := by decide +kernel
theorem dX6_cell_74 : decode cX6_cell 74 = .ok (.aload_n 0, 1) := by decide +kernel
theorem dX6_cell_75 : decode cX6_cell 75 = .ok (.getfield 13, 3) := by decide +kernel
theorem dX6_cell_78 : decode cX6_cell 78 = .ok (.iload_n 1, 1) := by decide +kernel
theorem dX6_cell_79 : decode cX6_cell 79 = .ok (.aaload, 1) := by decide +kernel
theorem dX6_cell_80 : decode cX6_cell 80 = .ok (.getfield 189, 3) := by decide +kernel
theorem dX6_cell_83 : decode cX6_cell 83 = .ok (.iload_n 2, 1) := by decide +kernel
theorem dX6_cell_84 : decode cX6_cell 84 = .ok (.iaload, 1) := by decide +kernel
theorem dX6_cell_85 : decode cX6_cell 85 = .ok (.i2l, 1) := by decide +kernel
theorem dX6_cell_86 : decode cX6_cell 86 = .ok (.lreturn, 1) := by decide +kernel
set_option maxRecDepth 20000 in
theorem ggX6_copy_X6_isBelow : GoodIn wsX6_copy wsX6_isBelow := goodIn_r _ [12] (by decide +kernel) (by decide +kernel)
set_option maxRecDepth 20000 in
theorem gX6_copy_X6_isBelow : GoodIn wsX6_copy (va_wsS RX6 53 yX6_isBelow wsX6_isBelow) := goodIn_app (goodIn_of _ (by decide +kernel)) ggX6_copy_X6_isBelow
set_option maxRecDepth 20000 in
theorem ggX6_copy_X3_hasNothing : GoodIn wsX6_copy wsX3_hasNothing := goodIn_r _ [17, 18, 35, 36, 37] (by decide +kernel) (by decide +kernel)
set_option maxRecDepth 20000 in
theorem gX6_copy_X3_hasNothing : GoodIn wsX6_copy (wsV RX6 180 RX3 yX3_hasNothing wsX3_hasNothing) := goodIn_app (goodIn_of _ (by decide +kernel)) ggX6_copy_X3_hasNothing
set_option maxRecDepth 20000 in
theorem ggX6_copy_X6_failBy : GoodIn wsX6_copy wsX6_failBy := goodIn_r _ [22, 1, 28, 29, 30, 31, 32, 33, 34] (by decide +kernel) (by decide +kernel)
set_option maxRecDepth 20000 in
theorem gX6_copy_X6_failBy : GoodIn wsX6_copy (wsV RX6 61 RX6 yX6_failBy wsX6_failBy) := goodIn_app (goodIn_of _ (by decide +kernel)) ggX6_copy_X6_failBy
set_option maxRecDepth 20000 in
theorem ggX6_copy_X3_hasCells : GoodIn wsX6_copy wsX3_hasCells := goodIn_r _ [26, 27, 35, 36, 37] (by decide +kernel) (by decide +kernel)
set_option maxRecDepth 20000 in
theorem gX6_copy_X3_hasCells : GoodIn wsX6_copy (wsV RX6 64 RX3 yX3_hasCells wsX3_hasCells) := goodIn_app (goodIn_of _ (by decide +kernel)) ggX6_copy_X3_hasCells
theorem dX6_copy_0 : decode cX6_copy 0 = .ok (.aload_n 0, 1) := by decide +kernel
theorem dX6_copy_1 : decode cX6_copy 1 = .ok (.iconst 0, 1) := by decide +kernel
theorem dX6_copy_2 : decode cX6_copy 2 = .ok (.putfield 49, 3) := by decide +kernel
theorem dX6_copy_5 : decode cX6_copy 5 = .ok (.iload_n 1, 1) := by decide +kernel
theorem dX6_copy_6 : decode cX6_copy 6 = .ok (.iconst 4, 1) := by decide +kernel
theorem dX6_copy_7 : decode cX6_copy 7 = .ok (.invokestatic 53, 3) := by decide +kernel
theorem dX6_copy_10 : decode cX6_copy 10 = .ok (.ifCond .eq 11, 3) := by decide +kernel
theorem dX6_copy_13 : decode cX6_copy 13 = .ok (.iload_n 3, 1) := by decide +kernel
theorem dX6_copy_14 : decode cX6_copy 14 = .ok (.iconst 4, 1) := by decide +kernel
theorem dX6_copy_15 : decode cX6_copy 15 = .ok (.invokestatic 53, 3) := by decide +kernel
theorem dX6_copy_18 : decode cX6_copy 18 = .ok (.ifCond .ne 5, 3) := by decide +kernel
theorem dX6_copy_21 : decode cX6_copy 21 = .ok (.iconst (-1), 1) := by decide +kernel
theorem dX6_copy_22 : decode cX6_copy 22 = .ok (.ireturn, 1) := by decide +kernel
theorem dX6_copy_23 : decode cX6_copy 23 = .ok (.aload_n 0, 1) := by decide +kernel
theorem dX6_copy_24 : decode cX6_copy 24 = .ok (.getfield 13, 3) := by decide +kernel
theorem dX6_copy_27 : decode cX6_copy 27 = .ok (.iload_n 1, 1) := by decide +kernel
theorem dX6_copy_28 : decode cX6_copy 28 = .ok (.aaload, 1) := by decide +kernel
theorem dX6_copy_29 : decode cX6_copy 29 = .ok (.astore 6, 2) := by decide +kernel
theorem dX6_copy_31 : decode cX6_copy 31 = .ok (.aload_n 0, 1) := by decide +kernel
theorem dX6_copy_32 : decode cX6_copy 32 = .ok (.getfield 13, 3) := by decide +kernel
theorem dX6_copy_35 : decode cX6_copy 35 = .ok (.iload_n 3, 1) := by decide +kernel
theorem dX6_copy_36 : decode cX6_copy 36 = .ok (.aaload, 1) := by decide +kernel
theorem dX6_copy_37 : decode cX6_copy 37 = .ok (.astore 7, 2) := by decide +kernel
theorem dX6_copy_39 : decode cX6_copy 39 = .ok (.aload 6, 2) := by decide +kernel
theorem dX6_copy_41 : decode cX6_copy 41 = .ok (.invokevirtual 180, 3) := by decide +kernel
theorem dX6_copy_44 : decode cX6_copy 44 = .ok (.ifCond .ne 11, 3) := by decide +kernel
theorem dX6_copy_47 : decode cX6_copy 47 = .ok (.aload 7, 2) := by decide +kernel
theorem dX6_copy_49 : decode cX6_copy 49 = .ok (.invokevirtual 180, 3) := by decide +kernel
theorem dX6_copy_52 : decode cX6_copy 52 = .ok (.ifCond .eq 9, 3) := by decide +kernel
theorem dX6_copy_55 : decode cX6_copy 55 = .ok (.aload_n 0, 1) := by decide +kernel
theorem dX6_copy_56 : decode cX6_copy 56 = .ok (.iconst 1, 1) := by decide +kernel
theorem dX6_copy_57 : decode cX6_copy 57 = .ok (.invokevirtual 61, 3) := by decide +kernel
theorem dX6_copy_60 : decode cX6_copy 60 = .ok (.ireturn, 1) := by decide +kernel
theorem dX6_copy_61 : decode cX6_copy 61 = .ok (.aload 6, 2) := by decide +kernel
theorem dX6_copy_63 : decode cX6_copy 63 = .ok (.getfield 192, 3) := by decide +kernel
theorem dX6_copy_66 : decode cX6_copy 66 = .ok (.aload 7, 2) := by decide +kernel
theorem dX6_copy_68 : decode cX6_copy 68 = .ok (.getfield 192, 3) := by decide +kernel
theorem dX6_copy_71 : decode cX6_copy 71 = .ok (.if_icmp .eq 9, 3) := by decide +kernel
theorem dX6_copy_74 : decode cX6_copy 74 = .ok (.aload_n 0, 1) := by decide +kernel
theorem dX6_copy_75 : decode cX6_copy 75 = .ok (.iconst 2, 1) := by decide +kernel
theorem dX6_copy_76 : decode cX6_copy 76 = .ok (.invokevirtual 61, 3) := by decide +kernel
theorem dX6_copy_79 : decode cX6_copy 79 = .ok (.ireturn, 1) := by decide +kernel
theorem dX6_copy_80 : decode cX6_copy 80 = .ok (.aload 6, 2) := by decide +kernel
theorem dX6_copy_82 : decode cX6_copy 82 = .ok (.iload_n 2, 1) := by decide +kernel
theorem dX6_copy_83 : decode cX6_copy 83 = .ok (.iload 5, 2) := by decide +kernel
theorem dX6_copy_85 : decode cX6_copy 85 = .ok (.invokevirtual 64, 3) := by decide +kernel
theorem dX6_copy_88 : decode cX6_copy 88 = .ok (.ifCond .eq 15, 3) := by decide +kernel
theorem dX6_copy_91 : decode cX6_copy 91 = .ok (.aload 7, 2) := by decide +kernel
theorem dX6_copy_93 : decode cX6_copy 93 = .ok (.iload 4, 2) := by decide +kernel
theorem dX6_copy_95 : decode cX6_copy 95 = .ok (.iload 5, 2) := by decide +kernel
theorem dX6_copy_97 : decode cX6_copy 97 = .ok (.invokevirtual 64, 3) := by decide +kernel
theorem dX6_copy_100 : decode cX6_copy 100 = .ok (.ifCond .ne 9, 3) := by decide +kernel
theorem dX6_copy_103 : decode cX6_copy 103 = .ok (.aload_n 0, 1) := by decide +kernel
theorem dX6_copy_104 : decode cX6_copy 104 = .ok (.iconst 3, 1) := by decide +kernel
theorem dX6_copy_105 : decode cX6_copy 105 = .ok (.invokevirtual 61, 3) := by decide +kernel
theorem dX6_copy_108 : decode cX6_copy 108 = .ok (.ireturn, 1) := by decide +kernel
theorem dX6_copy_109 : decode cX6_copy 109 = .ok (.aload 6, 2) := by decide +kernel
theorem dX6_copy_111 : decode cX6_copy 111 = .ok (.getfield 189, 3) := by decide +kernel
theorem dX6_copy_114 : decode cX6_copy 114 = .ok (.iload_n 2, 1) := by decide +kernel
theorem dX6_copy_115 : decode cX6_copy 115 = .ok (.aload 7, 2) := by decide +kernel
theorem dX6_copy_117 : decode cX6_copy 117 = .ok (.getfield 189, 3) := by decide +kernel
theorem dX6_copy_120 : decode cX6_copy 120 = .ok (.iload 4, 2) := by decide +kernel
theorem dX6_copy_122 : decode cX6_copy 122 = .ok (.iload 5, 2) := by decide +kernel
theorem dX6_copy_124 : decode cX6_copy 124 = .ok (.invokestatic 195, 3) := by decide +kernel
theorem dX6_copy_127 : decode cX6_copy 127 = .ok (.iload 5, 2) := by decide +kernel
theorem dX6_copy_129 : decode cX6_copy 129 = .ok (.ireturn, 1) := by decide +kernel
set_option maxRecDepth 20000 in
theorem ggX6_tell_X1_hasBell : GoodIn wsX6_tell wsX1_hasBell := goodIn_r _ [7, 8, 9, 10, 11, 37, 38, 39, 40, 41, 42, 43] (by decide +kernel) (by decide +kernel)
set_option maxRecDepth 20000 in
theorem gX6_tell_X1_hasBell : GoodIn wsX6_tell (wsV RX6 81 RX1 yX1_hasBell wsX1_hasBell) := goodIn_app (goodIn_of _ (by decide +kernel)) ggX6_tell_X1_hasBell
set_option maxRecDepth 20000 in
theorem ggX6_tell_X6_stuffedBody : GoodIn wsX6_tell wsX6_stuffedBody := goodIn_r _ [15, 16, 17, 18, 10, 19, 20, 21, 22, 23, 24, 25, 26, 27, 28, 1, 29, 30, 31, 32, 33, 34, 35, 36, 37, 38, 39, 40, 41, 42, 43] (by decide +kernel) (by decide +kernel)
set_option maxRecDepth 20000 in
theorem gX6_tell_X6_stuffedBody : GoodIn wsX6_tell (wsV RX6 201 RX6 yX6_stuffedBody wsX6_stuffedBody) := goodIn_app (goodIn_of _ (by decide +kernel)) ggX6_tell_X6_stuffedBody
set_option maxRecDepth 20000 in
theorem ggX6_tell_X6_crackedBody : GoodIn wsX6_tell wsX6_crackedBody := goodIn_r _ [24, 16, 17, 18, 10, 19, 20, 25, 26, 27, 28, 1, 29, 30, 31, 32, 33, 34, 35, 36, 37, 38, 39, 40, 41, 42, 43] (by decide +kernel) (by decide +kernel)
set_option maxRecDepth 20000 in
theorem gX6_tell_X6_crackedBody : GoodIn wsX6_tell (wsV RX6 204 RX6 yX6_crackedBody wsX6_crackedBody) := goodIn_app (goodIn_of _ (by decide +kernel)) ggX6_tell_X6_crackedBody
set_option maxRecDepth 20000 in
theorem ggX6_tell_X6_plainBody : GoodIn wsX6_tell wsX6_plainBody := goodIn_r _ [28, 1, 29, 16, 17, 18, 10, 19, 20, 30, 31, 32, 33, 34, 35, 36, 37, 38, 39, 40, 41, 42, 43] (by decide +kernel) (by decide +kernel)
set_option maxRecDepth 20000 in
theorem gX6_tell_X6_plainBody : GoodIn wsX6_tell (wsV RX6 207 RX6 yX6_plainBody wsX6_plainBody) := goodIn_app (goodIn_of _ (by decide +kernel)) ggX6_tell_X6_plainBody
theorem dX6_tell_0 : decode cX6_tell 0 = .ok (.aload_n 0, 1) := by decide +kernel
theorem dX6_tell_1 : decode cX6_tell 1 = .ok (.getfield 20, 3) := by decide +kernel
theorem dX6_tell_4 : decode cX6_tell 4 = .ok (.iload_n 1, 1) := by decide +kernel
theorem dX6_tell_5 : decode cX6_tell 5 = .ok (.invokevirtual 81, 3) := by decide +kernel
theorem dX6_tell_8 : decode cX6_tell 8 = .ok (.ifCond .ne 5, 3) := by decide +kernel
theorem dX6_tell_11 : decode cX6_tell 11 = .ok (.iconst (-1), 1) := by decide +kernel
theorem dX6_tell_12 : decode cX6_tell 12 = .ok (.ireturn, 1) := by decide +kernel
theorem dX6_tell_13 : decode cX6_tell 13 = .ok (.aload_n 0, 1) := by decide +kernel
theorem dX6_tell_14 : decode cX6_tell 14 = .ok (.getfield 20, 3) := by decide +kernel
theorem dX6_tell_17 : decode cX6_tell 17 = .ok (.getfield 85, 3) := by decide +kernel
theorem dX6_tell_20 : decode cX6_tell 20 = .ok (.iload_n 1, 1) := by decide +kernel
theorem dX6_tell_21 : decode cX6_tell 21 = .ok (.iaload, 1) := by decide +kernel
theorem dX6_tell_22 : decode cX6_tell 22 = .ok (.lookupswitch 38 #[(1, 32), (2, 26)], 26) := by decide +kernel
theorem dX6_tell_48 : decode cX6_tell 48 = .ok (.aload_n 0, 1) := by decide +kernel
theorem dX6_tell_49 : decode cX6_tell 49 = .ok (.iload_n 1, 1) := by decide +kernel
theorem dX6_tell_50 : decode cX6_tell 50 = .ok (.invokevirtual 201, 3) := by decide +kernel
theorem dX6_tell_53 : decode cX6_tell 53 = .ok (.ireturn, 1) := by decide +kernel
theorem dX6_tell_54 : decode cX6_tell 54 = .ok (.aload_n 0, 1) := by decide +kernel
theorem dX6_tell_55 : decode cX6_tell 55 = .ok (.iload_n 1, 1) := by decide +kernel
theorem dX6_tell_56 : decode cX6_tell 56 = .ok (.invokevirtual 204, 3) := by decide +kernel
theorem dX6_tell_59 : decode cX6_tell 59 = .ok (.ireturn, 1) := by decide +kernel
theorem dX6_tell_60 : decode cX6_tell 60 = .ok (.aload_n 0, 1) := by decide +kernel
theorem dX6_tell_61 : decode cX6_tell 61 = .ok (.iload_n 1, 1) := by decide +kernel
theorem dX6_tell_62 : decode cX6_tell 62 = .ok (.invokevirtual 207, 3) := by decide +kernel
theorem dX6_tell_65 : decode cX6_tell 65 = .ok (.ireturn, 1) := by decide +kernel
set_option maxRecDepth 20000 in
theorem ggX6_echo_X1_hasBell : GoodIn wsX6_echo wsX1_hasBell := goodIn_r _ [7, 8, 9, 10, 11, 24, 25, 26, 27, 28, 29, 30] (by decide +kernel) (by decide +kernel)
set_option maxRecDepth 20000 in
theorem gX6_echo_X1_hasBell : GoodIn wsX6_echo (wsV RX6 81 RX1 yX1_hasBell wsX1_hasBell) := goodIn_app (goodIn_of _ (by decide +kernel)) ggX6_echo_X1_hasBell
set_option maxRecDepth 20000 in
theorem ggX6_echo_X6_leave : GoodIn wsX6_echo wsX6_leave := goodIn_r _ [15, 16, 17, 18, 19, 20, 21, 22, 23] (by decide +kernel) (by decide +kernel)
set_option maxRecDepth 20000 in
theorem gX6_echo_X6_leave : GoodIn wsX6_echo (wsV RX6 210 RX6 yX6_leave wsX6_leave) := goodIn_app (goodIn_of _ (by decide +kernel)) ggX6_echo_X6_leave
theorem dX6_echo_0 : decode cX6_echo 0 = .ok (.aload_n 0, 1) := by decide +kernel
theorem dX6_echo_1 : decode cX6_echo 1 = .ok (.getfield 20, 3) := by decide +kernel
theorem dX6_echo_4 : decode cX6_echo 4 = .ok (.iload_n 1, 1) := by decide +kernel
theorem dX6_echo_5 : decode cX6_echo 5 = .ok (.invokevirtual 81, 3) := by decide +kernel
theorem dX6_echo_8 : decode cX6_echo 8 = .ok (.ifCond .ne 5, 3) := by decide +kernel
theorem dX6_echo_11 : decode cX6_echo 11 = .ok (.iconst (-1), 1) := by decide +kernel
theorem dX6_echo_12 : decode cX6_echo 12 = .ok (.ireturn, 1) := by decide +kernel
theorem dX6_echo_13 : decode cX6_echo 13 = .ok (.aload_n 0, 1) := by decide +kernel
theorem dX6_echo_14 : decode cX6_echo 14 = .ok (.getfield 20, 3) := by decide +kernel
theorem dX6_echo_17 : decode cX6_echo 17 = .ok (.getfield 85, 3) := by decide +kernel
theorem dX6_echo_20 : decode cX6_echo 20 = .ok (.iload_n 1, 1) := by decide +kernel
theorem dX6_echo_21 : decode cX6_echo 21 = .ok (.iaload, 1) := by decide +kernel
theorem dX6_echo_22 : decode cX6_echo 22 = .ok (.iconst 2, 1) := by decide +kernel
theorem dX6_echo_23 : decode cX6_echo 23 = .ok (.if_icmp .ne 11, 3) := by decide +kernel
theorem dX6_echo_26 : decode cX6_echo 26 = .ok (.aload_n 0, 1) := by decide +kernel
theorem dX6_echo_27 : decode cX6_echo 27 = .ok (.iconst 5, 1) := by decide +kernel
theorem dX6_echo_28 : decode cX6_echo 28 = .ok (.invokevirtual 210, 3) := by decide +kernel
theorem dX6_echo_31 : decode cX6_echo 31 = .ok (.bipush 20, 2) := by decide +kernel
theorem dX6_echo_33 : decode cX6_echo 33 = .ok (.ireturn, 1) := by decide +kernel
theorem dX6_echo_34 : decode cX6_echo 34 = .ok (.aload_n 0, 1) := by decide +kernel
theorem dX6_echo_35 : decode cX6_echo 35 = .ok (.iconst 4, 1) := by decide +kernel
theorem dX6_echo_36 : decode cX6_echo 36 = .ok (.invokevirtual 210, 3) := by decide +kernel
theorem dX6_echo_39 : decode cX6_echo 39 = .ok (.iload_n 1, 1) := by decide +kernel
theorem dX6_echo_40 : decode cX6_echo 40 = .ok (.ireturn, 1) := by decide +kernel
set_option maxRecDepth 20000 in
theorem ggX6_as_X1_hasBell : GoodIn wsX6_as wsX1_hasBell := goodIn_r _ [8, 9, 10, 11, 12, 25, 26, 27, 28, 29, 30, 31] (by decide +kernel) (by decide +kernel)
set_option maxRecDepth 20000 in
theorem gX6_as_X1_hasBell : GoodIn wsX6_as (wsV RX6 81 RX1 yX1_hasBell wsX1_hasBell) := goodIn_app (goodIn_of _ (by decide +kernel)) ggX6_as_X1_hasBell
set_option maxRecDepth 20000 in
theorem ggX6_as_X6_isBelow : GoodIn wsX6_as wsX6_isBelow := goodIn_r _ [12] (by decide +kernel) (by decide +kernel)
set_option maxRecDepth 20000 in
theorem gX6_as_X6_isBelow : GoodIn wsX6_as (va_wsS RX6 53 yX6_isBelow wsX6_isBelow) := goodIn_app (goodIn_of _ (by decide +kernel)) ggX6_as_X6_isBelow
set_option maxRecDepth 20000 in
theorem ggX6_as_X6_failBy : GoodIn wsX6_as wsX6_failBy := goodIn_r _ [17, 1, 18, 19, 20, 21, 22, 23, 24] (by decide +kernel) (by decide +kernel)
set_option maxRecDepth 20000 in
theorem gX6_as_X6_failBy : GoodIn wsX6_as (wsV RX6 61 RX6 yX6_failBy wsX6_failBy) := goodIn_app (goodIn_of _ (by decide +kernel)) ggX6_as_X6_failBy
theorem dX6_as_0 : decode cX6_as 0 = .ok (.aload_n 0, 1) := by decide +kernel
theorem dX6_as_1 : decode cX6_as 1 = .ok (.iconst 0, 1) := by decide +kernel
theorem dX6_as_2 : decode cX6_as 2 = .ok (.putfield 49, 3) := by decide +kernel
theorem dX6_as_5 : decode cX6_as 5 = .ok (.aload_n 0, 1) := by decide +kernel
theorem dX6_as_6 : decode cX6_as 6 = .ok (.getfield 20, 3) := by decide +kernel
theorem dX6_as_9 : decode cX6_as 9 = .ok (.iload_n 1, 1) := by decide +kernel
theorem dX6_as_10 : decode cX6_as 10 = .ok (.invokevirtual 81, 3) := by decide +kernel
theorem dX6_as_13 : decode cX6_as 13 = .ok (.ifCond .ne 5, 3) := by decide +kernel
theorem dX6_as_16 : decode cX6_as 16 = .ok (.iconst (-1), 1) := by decide +kernel
theorem dX6_as_17 : decode cX6_as 17 = .ok (.ireturn, 1) := by decide +kernel
theorem dX6_as_18 : decode cX6_as 18 = .ok (.iload_n 2, 1) := by decide +kernel
theorem dX6_as_19 : decode cX6_as 19 = .ok (.iconst 3, 1) := by decide +kernel
theorem dX6_as_20 : decode cX6_as 20 = .ok (.invokestatic 53, 3) := by decide +kernel
theorem dX6_as_23 : decode cX6_as 23 = .ok (.ifCond .ne 6, 3) := by decide +kernel
theorem dX6_as_26 : decode cX6_as 26 = .ok (.bipush (-2), 2) := by decide +kernel
theorem dX6_as_28 : decode cX6_as 28 = .ok (.ireturn, 1) := by decide +kernel
theorem dX6_as_29 : decode cX6_as 29 = .ok (.iload_n 2, 1) := by decide +kernel
theorem dX6_as_30 : decode cX6_as 30 = .ok (.aload_n 0, 1) := by decide +kernel
theorem dX6_as_31 : decode cX6_as 31 = .ok (.getfield 20, 3) := by decide +kernel
theorem dX6_as_34 : decode cX6_as 34 = .ok (.getfield 85, 3) := by decide +kernel
theorem dX6_as_37 : decode cX6_as 37 = .ok (.iload_n 1, 1) := by decide +kernel
theorem dX6_as_38 : decode cX6_as 38 = .ok (.iaload, 1) := by decide +kernel
theorem dX6_as_39 : decode cX6_as 39 = .ok (.if_icmp .le 9, 3) := by decide +kernel
theorem dX6_as_42 : decode cX6_as 42 = .ok (.aload_n 0, 1) := by decide +kernel
theorem dX6_as_43 : decode cX6_as 43 = .ok (.iconst 2, 1) := by decide +kernel
theorem dX6_as_44 : decode cX6_as 44 = .ok (.invokevirtual 61, 3) := by decide +kernel
theorem dX6_as_47 : decode cX6_as 47 = .ok (.ireturn, 1) := by decide +kernel
theorem dX6_as_48 : decode cX6_as 48 = .ok (.iconst 1, 1) := by decide +kernel
theorem dX6_as_49 : decode cX6_as 49 = .ok (.ireturn, 1) := by decide +kernel
theorem dX6_trace_0 : decode cX6_trace 0 = .ok (.aload_n 0, 1) := by decide +kernel
theorem dX6_trace_1 : decode cX6_trace 1 = .ok (.getfield 45, 3) := by decide +kernel
theorem dX6_trace_4 : decode cX6_trace 4 = .ok (.ireturn, 1) := by decide +kernel
theorem dX6_fault_0 : decode cX6_fault 0 = .ok (.aload_n 0, 1) := by decide +kernel
theorem dX6_fault_1 : decode cX6_fault 1 = .ok (.getfield 49, 3) := by decide +kernel
theorem dX6_fault_4 : decode cX6_fault 4 = .ok (.ireturn, 1) := by decide +kernel
theorem dX6_many_0 : decode cX6_many 0 = .ok (.iload_n 1, 1) := by decide +kernel
theorem dX6_many_1 : decode cX6_many 1 = .ok (.tableswitch 63 0 3 #[31, 39, 47, 55], 31) := by decide +kernel
theorem dX6_many_32 : decode cX6_many 32 = .ok (.aload_n 0, 1) := by decide +kernel
theorem dX6_many_33 : decode cX6_many 33 = .ok (.getfield 20, 3) := by decide +kernel
theorem dX6_many_36 : decode cX6_many 36 = .ok (.getfield 80, 3) := by decide +kernel
theorem dX6_many_39 : decode cX6_many 39 = .ok (.ireturn, 1) := by decide +kernel
theorem dX6_many_40 : decode cX6_many 40 = .ok (.aload_n 0, 1) := by decide +kernel
theorem dX6_many_41 : decode cX6_many 41 = .ok (.getfield 20, 3) := by decide +kernel
theorem dX6_many_44 : decode cX6_many 44 = .ok (.getfield 106, 3) := by decide +kernel
theorem dX6_many_47 : decode cX6_many 47 = .ok (.ireturn, 1) := by decide +kernel
theorem dX6_many_48 : decode cX6_many 48 = .ok (.aload_n 0, 1) := by decide +kernel
theorem dX6_many_49 : decode cX6_many 49 = .ok (.getfield 20, 3) := by decide +kernel
theorem dX6_many_52 : decode cX6_many 52 = .ok (.getfield 214, 3) := by decide +kernel
theorem dX6_many_55 : decode cX6_many 55 = .ok (.ireturn, 1) := by decide +kernel
theorem dX6_many_56 : decode cX6_many 56 = .ok (.aload_n 0, 1) := by decide +kernel
theorem dX6_many_57 : decode cX6_many 57 = .ok (.getfield 27, 3) := by decide +kernel
theorem dX6_many_60 : decode cX6_many 60 = .ok (.getfield 77, 3) := by decide +kernel
theorem dX6_many_63 : decode cX6_many 63 = .ok (.ireturn, 1) := by decide +kernel
theorem dX6_many_64 : decode cX6_many 64 = .ok (.bipush (-2), 2) := by decide +kernel
theorem dX6_many_66 : decode cX6_many 66 = .ok (.ireturn, 1) := by decide +kernel
theorem dX6_isBelow_0 : decode cX6_isBelow 0 = .ok (.iload_n 0, 1) := by decide +kernel
theorem dX6_isBelow_1 : decode cX6_isBelow 1 = .ok (.ifCond .lt 12, 3) := by decide +kernel
theorem dX6_isBelow_4 : decode cX6_isBelow 4 = .ok (.iload_n 0, 1) := by decide +kernel
theorem dX6_isBelow_5 : decode cX6_isBelow 5 = .ok (.iload_n 1, 1) := by decide +kernel
theorem dX6_isBelow_6 : decode cX6_isBelow 6 = .ok (.if_icmp .ge 7, 3) := by decide +kernel
theorem dX6_isBelow_9 : decode cX6_isBelow 9 = .ok (.iconst 1, 1) := by decide +kernel
theorem dX6_isBelow_10 : decode cX6_isBelow 10 = .ok (.goto 4, 3) := by decide +kernel
theorem dX6_isBelow_13 : decode cX6_isBelow 13 = .ok (.iconst 0, 1) := by decide +kernel
theorem dX6_isBelow_14 : decode cX6_isBelow 14 = .ok (.ireturn, 1) := by decide +kernel
theorem dX6_exchange_0 : decode cX6_exchange 0 = .ok (.aload_n 0, 1) := by decide +kernel
theorem dX6_exchange_1 : decode cX6_exchange 1 = .ok (.iload_n 1, 1) := by decide +kernel
theorem dX6_exchange_2 : decode cX6_exchange 2 = .ok (.iaload, 1) := by decide +kernel
theorem dX6_exchange_3 : decode cX6_exchange 3 = .ok (.istore_n 3, 1) := by decide +kernel
theorem dX6_exchange_4 : decode cX6_exchange 4 = .ok (.aload_n 0, 1) := by decide +kernel
theorem dX6_exchange_5 : decode cX6_exchange 5 = .ok (.iload_n 1, 1) := by decide +kernel
theorem dX6_exchange_6 : decode cX6_exchange 6 = .ok (.iload_n 2, 1) := by decide +kernel
theorem dX6_exchange_7 : decode cX6_exchange 7 = .ok (.iastore, 1) := by decide +kernel
theorem dX6_exchange_8 : decode cX6_exchange 8 = .ok (.iload_n 3, 1) := by decide +kernel
theorem dX6_exchange_9 : decode cX6_exchange 9 = .ok (.ireturn, 1) := by decide +kernel
theorem dX6_failBy_0 : decode cX6_failBy 0 = .ok (.aload_n 0, 1) := by decide +kernel
theorem dX6_failBy_1 : decode cX6_failBy 1 = .ok (.iload_n 1, 1) := by decide +kernel
theorem dX6_failBy_2 : decode cX6_failBy 2 = .ok (.putfield 49, 3) := by decide +kernel
theorem dX6_failBy_5 : decode cX6_failBy 5 = .ok (.bipush (-10), 2) := by decide +kernel
theorem dX6_failBy_7 : decode cX6_failBy 7 = .ok (.iload_n 1, 1) := by decide +kernel
theorem dX6_failBy_8 : decode cX6_failBy 8 = .ok (.isub, 1) := by decide +kernel
theorem dX6_failBy_9 : decode cX6_failBy 9 = .ok (.ireturn, 1) := by decide +kernel
theorem dX6_soundOf_0 : decode cX6_soundOf 0 = .ok (.iload_n 1, 1) := by decide +kernel
theorem dX6_soundOf_1 : decode cX6_soundOf 1 = .ok (.iload_n 2, 1) := by decide +kernel
theorem dX6_soundOf_2 : decode cX6_soundOf 2 = .ok (.iadd, 1) := by decide +kernel
theorem dX6_soundOf_3 : decode cX6_soundOf 3 = .ok (.iload_n 3, 1) := by decide +kernel
theorem dX6_soundOf_4 : decode cX6_soundOf 4 = .ok (.iadd, 1) := by decide +kernel
theorem dX6_soundOf_5 : decode cX6_soundOf 5 = .ok (.istore 4, 2) := by decide +kernel
theorem dX6_soundOf_7 : decode cX6_soundOf 7 = .ok (.iload_n 0, 1) := by decide +kernel
theorem dX6_soundOf_8 : decode cX6_soundOf 8 = .ok (.lookupswitch 42 #[(1, 28), (2, 37)], 28) := by decide +kernel
theorem dX6_soundOf_36 : decode cX6_soundOf 36 = .ok (.iload 4, 2) := by decide +kernel
theorem dX6_soundOf_38 : decode cX6_soundOf 38 = .ok (.iconst 1, 1) := by decide +kernel
theorem dX6_soundOf_39 : decode cX6_soundOf 39 = .ok (.isub, 1) := by decide +kernel
theorem dX6_soundOf_40 : decode cX6_soundOf 40 = .ok (.iconst 0, 1) := by decide +kernel
theorem dX6_soundOf_41 : decode cX6_soundOf 41 = .ok (.invokestatic 217, 3) := by decide +kernel
theorem dX6_soundOf_44 : decode cX6_soundOf 44 = .ok (.ireturn, 1) := by decide +kernel
theorem dX6_soundOf_45 : decode cX6_soundOf 45 = .ok (.iload 4, 2) := by decide +kernel
theorem dX6_soundOf_47 : decode cX6_soundOf 47 = .ok (.iconst 2, 1) := by decide +kernel
theorem dX6_soundOf_48 : decode cX6_soundOf 48 = .ok (.idiv, 1) := by decide +kernel
theorem dX6_soundOf_49 : decode cX6_soundOf 49 = .ok (.ireturn, 1) := by decide +kernel
theorem dX6_soundOf_50 : decode cX6_soundOf 50 = .ok (.iload 4, 2) := by decide +kernel
theorem dX6_soundOf_52 : decode cX6_soundOf 52 = .ok (.ireturn, 1) := by decide +kernel
set_option maxRecDepth 20000 in
theorem ggX6_isOfGoings_X6_isBelow : GoodIn wsX6_isOfGoings wsX6_isBelow := goodIn_r _ [4] (by decide +kernel) (by decide +kernel)
set_option maxRecDepth 20000 in
theorem gX6_isOfGoings_X6_isBelow : GoodIn wsX6_isOfGoings (va_wsS RX6 53 yX6_isBelow wsX6_isBelow) := goodIn_app (goodIn_of _ (by decide +kernel)) ggX6_isOfGoings_X6_isBelow
theorem dX6_isOfGoings_0 : decode cX6_isOfGoings 0 = .ok (.iload_n 0, 1) := by decide +kernel
theorem dX6_isOfGoings_1 : decode cX6_isOfGoings 1 = .ok (.iconst 4, 1) := by decide +kernel
theorem dX6_isOfGoings_2 : decode cX6_isOfGoings 2 = .ok (.invokestatic 53, 3) := by decide +kernel
theorem dX6_isOfGoings_5 : decode cX6_isOfGoings 5 = .ok (.ifCond .ne 14, 3) := by decide +kernel
theorem dX6_isOfGoings_8 : decode cX6_isOfGoings 8 = .ok (.iload_n 0, 1) := by decide +kernel
theorem dX6_isOfGoings_9 : decode cX6_isOfGoings 9 = .ok (.bipush 10, 2) := by decide +kernel
theorem dX6_isOfGoings_11 : decode cX6_isOfGoings 11 = .ok (.isub, 1) := by decide +kernel
theorem dX6_isOfGoings_12 : decode cX6_isOfGoings 12 = .ok (.iconst 5, 1) := by decide +kernel
theorem dX6_isOfGoings_13 : decode cX6_isOfGoings 13 = .ok (.invokestatic 53, 3) := by decide +kernel
theorem dX6_isOfGoings_16 : decode cX6_isOfGoings 16 = .ok (.ifCond .eq 7, 3) := by decide +kernel
theorem dX6_isOfGoings_19 : decode cX6_isOfGoings 19 = .ok (.iconst 1, 1) := by decide +kernel
theorem dX6_isOfGoings_20 : decode cX6_isOfGoings 20 = .ok (.goto 4, 3) := by decide +kernel
theorem dX6_isOfGoings_23 : decode cX6_isOfGoings 23 = .ok (.iconst 0, 1) := by decide +kernel
theorem dX6_isOfGoings_24 : decode cX6_isOfGoings 24 = .ok (.ireturn, 1) := by decide +kernel
set_option maxRecDepth 20000 in
theorem ggX6_ofWalk_X1_heardFrom : GoodIn wsX6_ofWalk wsX1_heardFrom := goodIn_r _ [10, 11, 12, 13, 14, 9, 15, 16, 17, 18, 19, 20, 21, 22, 23, 52, 53, 54, 55, 56, 57, 58] (by decide +kernel) (by decide +kernel)
set_option maxRecDepth 20000 in
theorem gX6_ofWalk_X1_heardFrom : GoodIn wsX6_ofWalk (wsV RX6 116 RX1 yX1_heardFrom wsX1_heardFrom) := goodIn_app (goodIn_of _ (by decide +kernel)) ggX6_ofWalk_X1_heardFrom
set_option maxRecDepth 20000 in
theorem ggX6_ofWalk_J6_bitCount_0f7a4 : GoodIn wsX6_ofWalk wsJ6_bitCount_0f7a4 := goodIn_r _ [27, 28, 29, 30] (by decide +kernel) (by decide +kernel)
set_option maxRecDepth 20000 in
theorem gX6_ofWalk_J6_bitCount_0f7a4 : GoodIn wsX6_ofWalk (va_wsS RX6 224 yJ6_bitCount_0f7a4 wsJ6_bitCount_0f7a4) := goodIn_app (goodIn_of _ (by decide +kernel)) ggX6_ofWalk_J6_bitCount_0f7a4
set_option maxRecDepth 20000 in
theorem ggX6_ofWalk_X6_loudestSpot : GoodIn wsX6_ofWalk wsX6_loudestSpot := goodIn_r _ [35, 3, 1, 4, 6, 7, 8, 9, 10, 11, 12, 13, 14, 15, 16, 17, 18, 19, 20, 21, 22, 23, 24, 25, 26, 27, 28, 29, 30, 42, 43, 44, 45, 46, 47, 48, 49, 50, 51, 52, 53, 54, 55, 56, 57, 58] (by decide +kernel) (by decide +kernel)
set_option maxRecDepth 20000 in
theorem gX6_ofWalk_X6_loudestSpot : GoodIn wsX6_ofWalk (wsV RX6 232 RX6 yX6_loudestSpot wsX6_loudestSpot) := goodIn_app (goodIn_of _ (by decide +kernel)) ggX6_ofWalk_X6_loudestSpot
set_option maxRecDepth 20000 in
theorem ggX6_ofWalk_X1_hasBell : GoodIn wsX6_ofWalk wsX1_hasBell := goodIn_r _ [39, 11, 40, 34, 41, 52, 53, 54, 55, 56, 57, 58] (by decide +kernel) (by decide +kernel)
set_option maxRecDepth 20000 in
theorem gX6_ofWalk_X1_hasBell : GoodIn wsX6_ofWalk (wsV RX6 81 RX1 yX1_hasBell wsX1_hasBell) := goodIn_app (goodIn_of _ (by decide +kernel)) ggX6_ofWalk_X1_hasBell
theorem dX6_ofWalk_0 : decode cX6_ofWalk 0 = .ok (.iload_n 1, 1) := by decide +kernel
theorem dX6_ofWalk_1 : decode cX6_ofWalk 1 = .ok (.iconst 1, 1) := by decide +kernel
theorem dX6_ofWalk_2 : decode cX6_ofWalk 2 = .ok (.if_icmp .ne 11, 3) := by decide +kernel
theorem dX6_ofWalk_5 : decode cX6_ofWalk 5 = .ok (.aload_n 0, 1) := by decide +kernel
theorem dX6_ofWalk_6 : decode cX6_ofWalk 6 = .ok (.getfield 41, 3) := by decide +kernel
theorem dX6_ofWalk_9 : decode cX6_ofWalk 9 = .ok (.getfield 220, 3) := by decide +kernel
theorem dX6_ofWalk_12 : decode cX6_ofWalk 12 = .ok (.ireturn, 1) := by decide +kernel
theorem dX6_ofWalk_13 : decode cX6_ofWalk 13 = .ok (.aload_n 0, 1) := by decide +kernel
theorem dX6_ofWalk_14 : decode cX6_ofWalk 14 = .ok (.getfield 41, 3) := by decide +kernel
theorem dX6_ofWalk_17 : decode cX6_ofWalk 17 = .ok (.getfield 220, 3) := by decide +kernel
theorem dX6_ofWalk_20 : decode cX6_ofWalk 20 = .ok (.bipush (-9), 2) := by decide +kernel
theorem dX6_ofWalk_22 : decode cX6_ofWalk 22 = .ok (.if_icmp .eq 14, 3) := by decide +kernel
theorem dX6_ofWalk_25 : decode cX6_ofWalk 25 = .ok (.bipush (-100), 2) := by decide +kernel
theorem dX6_ofWalk_27 : decode cX6_ofWalk 27 = .ok (.aload_n 0, 1) := by decide +kernel
theorem dX6_ofWalk_28 : decode cX6_ofWalk 28 = .ok (.getfield 41, 3) := by decide +kernel
theorem dX6_ofWalk_31 : decode cX6_ofWalk 31 = .ok (.getfield 220, 3) := by decide +kernel
theorem dX6_ofWalk_34 : decode cX6_ofWalk 34 = .ok (.isub, 1) := by decide +kernel
theorem dX6_ofWalk_35 : decode cX6_ofWalk 35 = .ok (.ireturn, 1) := by decide +kernel
theorem dX6_ofWalk_36 : decode cX6_ofWalk 36 = .ok (.iload_n 1, 1) := by decide +kernel
theorem dX6_ofWalk_37 : decode cX6_ofWalk 37 = .ok (.ifCond .ne 22, 3) := by decide +kernel
theorem dX6_ofWalk_40 : decode cX6_ofWalk 40 = .ok (.aload_n 0, 1) := by decide +kernel
theorem dX6_ofWalk_41 : decode cX6_ofWalk 41 = .ok (.getfield 20, 3) := by decide +kernel
theorem dX6_ofWalk_44 : decode cX6_ofWalk 44 = .ok (.aload_n 0, 1) := by decide +kernel
theorem dX6_ofWalk_45 : decode cX6_ofWalk 45 = .ok (.getfield 41, 3) := by decide +kernel
theorem dX6_ofWalk_48 : decode cX6_ofWalk 48 = .ok (.getfield 223, 3) := by decide +kernel
theorem dX6_ofWalk_51 : decode cX6_ofWalk 51 = .ok (.iconst 0, 1) := by decide +kernel
theorem dX6_ofWalk_52 : decode cX6_ofWalk 52 = .ok (.invokevirtual 116, 3) := by decide +kernel
theorem dX6_ofWalk_55 : decode cX6_ofWalk 55 = .ok (.invokestatic 224, 3) := by decide +kernel
theorem dX6_ofWalk_58 : decode cX6_ofWalk 58 = .ok (.ireturn, 1) := by decide +kernel
theorem dX6_ofWalk_59 : decode cX6_ofWalk 59 = .ok (.iload_n 1, 1) := by decide +kernel
theorem dX6_ofWalk_60 : decode cX6_ofWalk 60 = .ok (.iconst 2, 1) := by decide +kernel
theorem dX6_ofWalk_61 : decode cX6_ofWalk 61 = .ok (.if_icmp .ne 11, 3) := by decide +kernel
theorem dX6_ofWalk_64 : decode cX6_ofWalk 64 = .ok (.aload_n 0, 1) := by decide +kernel
theorem dX6_ofWalk_65 : decode cX6_ofWalk 65 = .ok (.getfield 41, 3) := by decide +kernel
theorem dX6_ofWalk_68 : decode cX6_ofWalk 68 = .ok (.getfield 229, 3) := by decide +kernel
theorem dX6_ofWalk_71 : decode cX6_ofWalk 71 = .ok (.ireturn, 1) := by decide +kernel
theorem dX6_ofWalk_72 : decode cX6_ofWalk 72 = .ok (.iload_n 1, 1) := by decide +kernel
theorem dX6_ofWalk_73 : decode cX6_ofWalk 73 = .ok (.iconst 3, 1) := by decide +kernel
theorem dX6_ofWalk_74 : decode cX6_ofWalk 74 = .ok (.if_icmp .ne 8, 3) := by decide +kernel
theorem dX6_ofWalk_77 : decode cX6_ofWalk 77 = .ok (.aload_n 0, 1) := by decide +kernel
theorem dX6_ofWalk_78 : decode cX6_ofWalk 78 = .ok (.invokevirtual 232, 3) := by decide +kernel
theorem dX6_ofWalk_81 : decode cX6_ofWalk 81 = .ok (.ireturn, 1) := by decide +kernel
theorem dX6_ofWalk_82 : decode cX6_ofWalk 82 = .ok (.iload_n 1, 1) := by decide +kernel
