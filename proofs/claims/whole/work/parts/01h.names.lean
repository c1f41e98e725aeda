theorem dX7_readBell_189 : decode cX7_readBell 189 = .ok (.bipush (-9), 2) := by decide +kernel
theorem dX7_readBell_191 : decode cX7_readBell 191 = .ok (.if_icmp .eq 7, 3) := by decide +kernel
theorem dX7_readBell_194 : decode cX7_readBell 194 = .ok (.iconst 1, 1) := by decide +kernel
theorem dX7_readBell_195 : decode cX7_readBell 195 = .ok (.goto 4, 3) := by decide +kernel
theorem dX7_readBell_198 : decode cX7_readBell 198 = .ok (.iconst 0, 1) := by decide +kernel
theorem dX7_readBell_199 : decode cX7_readBell 199 = .ok (.ireturn, 1) := by decide +kernel
set_option maxRecDepth 20000 in
theorem ggX7_ofBell_X7_isBell : GoodIn wsX7_ofBell wsX7_isBell := goodIn_r _ [9, 10, 11, 12, 13, 14, 15, 16, 17, 18, 19, 20, 21, 22, 23, 24, 25, 26, 27, 28, 29, 30, 31, 32, 33, 34, 35, 36, 37, 38] (by decide +kernel) (by decide +kernel)
set_option maxRecDepth 20000 in
theorem gX7_ofBell_X7_isBell : GoodIn wsX7_ofBell (wsV RX7 124 RX7 yX7_isBell wsX7_isBell) := goodIn_app (goodIn_of _ (by decide +kernel)) ggX7_ofBell_X7_isBell
theorem dX7_ofBell_0 : decode cX7_ofBell 0 = .ok (.aload_n 0, 1) := by decide +kernel
theorem dX7_ofBell_1 : decode cX7_ofBell 1 = .ok (.iload_n 1, 1) := by decide +kernel
theorem dX7_ofBell_2 : decode cX7_ofBell 2 = .ok (.invokevirtual 124, 3) := by decide +kernel
theorem dX7_ofBell_5 : decode cX7_ofBell 5 = .ok (.ifCond .ne 5, 3) := by decide +kernel
theorem dX7_ofBell_8 : decode cX7_ofBell 8 = .ok (.iconst (-1), 1) := by decide +kernel
theorem dX7_ofBell_9 : decode cX7_ofBell 9 = .ok (.ireturn, 1) := by decide +kernel
theorem dX7_ofBell_10 : decode cX7_ofBell 10 = .ok (.iload_n 2, 1) := by decide +kernel
theorem dX7_ofBell_11 : decode cX7_ofBell 11 = .ok (.ifCond .ne 12, 3) := by decide +kernel
theorem dX7_ofBell_14 : decode cX7_ofBell 14 = .ok (.aload_n 0, 1) := by decide +kernel
theorem dX7_ofBell_15 : decode cX7_ofBell 15 = .ok (.getfield 19, 3) := by decide +kernel
theorem dX7_ofBell_18 : decode cX7_ofBell 18 = .ok (.iload_n 1, 1) := by decide +kernel
theorem dX7_ofBell_19 : decode cX7_ofBell 19 = .ok (.iaload, 1) := by decide +kernel
theorem dX7_ofBell_20 : decode cX7_ofBell 20 = .ok (.goto 47, 3) := by decide +kernel
theorem dX7_ofBell_23 : decode cX7_ofBell 23 = .ok (.iload_n 2, 1) := by decide +kernel
theorem dX7_ofBell_24 : decode cX7_ofBell 24 = .ok (.iconst 1, 1) := by decide +kernel
theorem dX7_ofBell_25 : decode cX7_ofBell 25 = .ok (.if_icmp .ne 12, 3) := by decide +kernel
theorem dX7_ofBell_28 : decode cX7_ofBell 28 = .ok (.aload_n 0, 1) := by decide +kernel
theorem dX7_ofBell_29 : decode cX7_ofBell 29 = .ok (.getfield 22, 3) := by decide +kernel
theorem dX7_ofBell_32 : decode cX7_ofBell 32 = .ok (.iload_n 1, 1) := by decide +kernel
theorem dX7_ofBell_33 : decode cX7_ofBell 33 = .ok (.iaload, 1) := by decide +kernel
theorem dX7_ofBell_34 : decode cX7_ofBell 34 = .ok (.goto 33, 3) := by decide +kernel
theorem dX7_ofBell_37 : decode cX7_ofBell 37 = .ok (.iload_n 2, 1) := by decide +kernel
theorem dX7_ofBell_38 : decode cX7_ofBell 38 = .ok (.iconst 2, 1) := by decide +kernel
theorem dX7_ofBell_39 : decode cX7_ofBell 39 = .ok (.if_icmp .ne 12, 3) := by decide +kernel
theorem dX7_ofBell_42 : decode cX7_ofBell 42 = .ok (.aload_n 0, 1) := by decide +kernel
theorem dX7_ofBell_43 : decode cX7_ofBell 43 = .ok (.getfield 25, 3) := by decide +kernel
theorem dX7_ofBell_46 : decode cX7_ofBell 46 = .ok (.iload_n 1, 1) := by decide +kernel
theorem dX7_ofBell_47 : decode cX7_ofBell 47 = .ok (.iaload, 1) := by decide +kernel
theorem dX7_ofBell_48 : decode cX7_ofBell 48 = .ok (.goto 19, 3) := by decide +kernel
theorem dX7_ofBell_51 : decode cX7_ofBell 51 = .ok (.iload_n 2, 1) := by decide +kernel
theorem dX7_ofBell_52 : decode cX7_ofBell 52 = .ok (.iconst 3, 1) := by decide +kernel
theorem dX7_ofBell_53 : decode cX7_ofBell 53 = .ok (.if_icmp .ne 12, 3) := by decide +kernel
theorem dX7_ofBell_56 : decode cX7_ofBell 56 = .ok (.aload_n 0, 1) := by decide +kernel
theorem dX7_ofBell_57 : decode cX7_ofBell 57 = .ok (.getfield 28, 3) := by decide +kernel
theorem dX7_ofBell_60 : decode cX7_ofBell 60 = .ok (.iload_n 1, 1) := by decide +kernel
theorem dX7_ofBell_61 : decode cX7_ofBell 61 = .ok (.iaload, 1) := by decide +kernel
theorem dX7_ofBell_62 : decode cX7_ofBell 62 = .ok (.goto 5, 3) := by decide +kernel
theorem dX7_ofBell_65 : decode cX7_ofBell 65 = .ok (.bipush (-2), 2) := by decide +kernel
theorem dX7_ofBell_67 : decode cX7_ofBell 67 = .ok (.ireturn, 1) := by decide +kernel
set_option maxRecDepth 20000 in
theorem ggX7_cheer_X7_isBell : GoodIn wsX7_cheer wsX7_isBell := goodIn_r _ [6, 7, 14, 15, 16, 17, 18, 19, 20, 21, 22, 23, 24, 25, 26, 27, 28, 29, 30, 31, 32, 33, 34, 35, 36, 37, 38, 39, 40, 41] (by decide +kernel) (by decide +kernel)
set_option maxRecDepth 20000 in
theorem gX7_cheer_X7_isBell : GoodIn wsX7_cheer (wsV RX7 124 RX7 yX7_isBell wsX7_isBell) := goodIn_app (goodIn_of _ (by decide +kernel)) ggX7_cheer_X7_isBell
set_option maxRecDepth 20000 in
theorem ggX7_cheer_X7_isMood : GoodIn wsX7_cheer wsX7_isMood := goodIn_r _ [10, 11, 12, 5, 13] (by decide +kernel) (by decide +kernel)
set_option maxRecDepth 20000 in
theorem gX7_cheer_X7_isMood : GoodIn wsX7_cheer (va_wsS RX7 127 yX7_isMood wsX7_isMood) := goodIn_app (goodIn_of _ (by decide +kernel)) ggX7_cheer_X7_isMood
theorem dX7_cheer_0 : decode cX7_cheer 0 = .ok (.aload_n 0, 1) := by decide +kernel
theorem dX7_cheer_1 : decode cX7_cheer 1 = .ok (.iload_n 1, 1) := by decide +kernel
theorem dX7_cheer_2 : decode cX7_cheer 2 = .ok (.invokevirtual 124, 3) := by decide +kernel
theorem dX7_cheer_5 : decode cX7_cheer 5 = .ok (.ifCond .ne 5, 3) := by decide +kernel
theorem dX7_cheer_8 : decode cX7_cheer 8 = .ok (.iconst (-1), 1) := by decide +kernel
theorem dX7_cheer_9 : decode cX7_cheer 9 = .ok (.ireturn, 1) := by decide +kernel
theorem dX7_cheer_10 : decode cX7_cheer 10 = .ok (.iload_n 2, 1) := by decide +kernel
theorem dX7_cheer_11 : decode cX7_cheer 11 = .ok (.invokestatic 127, 3) := by decide +kernel
theorem dX7_cheer_14 : decode cX7_cheer 14 = .ok (.ifCond .ne 6, 3) := by decide +kernel
theorem dX7_cheer_17 : decode cX7_cheer 17 = .ok (.bipush (-2), 2) := by decide +kernel
theorem dX7_cheer_19 : decode cX7_cheer 19 = .ok (.ireturn, 1) := by decide +kernel
theorem dX7_cheer_20 : decode cX7_cheer 20 = .ok (.aload_n 0, 1) := by decide +kernel
theorem dX7_cheer_21 : decode cX7_cheer 21 = .ok (.getfield 28, 3) := by decide +kernel
theorem dX7_cheer_24 : decode cX7_cheer 24 = .ok (.iload_n 1, 1) := by decide +kernel
theorem dX7_cheer_25 : decode cX7_cheer 25 = .ok (.iaload, 1) := by decide +kernel
theorem dX7_cheer_26 : decode cX7_cheer 26 = .ok (.istore_n 3, 1) := by decide +kernel
theorem dX7_cheer_27 : decode cX7_cheer 27 = .ok (.aload_n 0, 1) := by decide +kernel
theorem dX7_cheer_28 : decode cX7_cheer 28 = .ok (.getfield 28, 3) := by decide +kernel
theorem dX7_cheer_31 : decode cX7_cheer 31 = .ok (.iload_n 1, 1) := by decide +kernel
theorem dX7_cheer_32 : decode cX7_cheer 32 = .ok (.iload_n 2, 1) := by decide +kernel
theorem dX7_cheer_33 : decode cX7_cheer 33 = .ok (.iastore, 1) := by decide +kernel
theorem dX7_cheer_34 : decode cX7_cheer 34 = .ok (.iload_n 3, 1) := by decide +kernel
theorem dX7_cheer_35 : decode cX7_cheer 35 = .ok (.ireturn, 1) := by decide +kernel
set_option maxRecDepth 20000 in
theorem ggX7_recast_X7_isBell : GoodIn wsX7_recast wsX7_isBell := goodIn_r _ [6, 7, 14, 15, 16, 17, 18, 19, 20, 21, 22, 23, 24, 25, 26, 27, 28, 29, 30, 31, 32, 33, 34, 35, 36, 37, 38, 39, 40, 41] (by decide +kernel) (by decide +kernel)
set_option maxRecDepth 20000 in
theorem gX7_recast_X7_isBell : GoodIn wsX7_recast (wsV RX7 124 RX7 yX7_isBell wsX7_isBell) := goodIn_app (goodIn_of _ (by decide +kernel)) ggX7_recast_X7_isBell
set_option maxRecDepth 20000 in
theorem ggX7_recast_X7_isDigit : GoodIn wsX7_recast wsX7_isDigit := goodIn_r _ [10, 11, 12, 5, 13] (by decide +kernel) (by decide +kernel)
set_option maxRecDepth 20000 in
theorem gX7_recast_X7_isDigit : GoodIn wsX7_recast (va_wsS RX7 130 yX7_isDigit wsX7_isDigit) := goodIn_app (goodIn_of _ (by decide +kernel)) ggX7_recast_X7_isDigit
theorem dX7_recast_0 : decode cX7_recast 0 = .ok (.aload_n 0, 1) := by decide +kernel
theorem dX7_recast_1 : decode cX7_recast 1 = .ok (.iload_n 1, 1) := by decide +kernel
theorem dX7_recast_2 : decode cX7_recast 2 = .ok (.invokevirtual 124, 3) := by decide +kernel
theorem dX7_recast_5 : decode cX7_recast 5 = .ok (.ifCond .ne 5, 3) := by decide +kernel
theorem dX7_recast_8 : decode cX7_recast 8 = .ok (.iconst (-1), 1) := by decide +kernel
theorem dX7_recast_9 : decode cX7_recast 9 = .ok (.ireturn, 1) := by decide +kernel
theorem dX7_recast_10 : decode cX7_recast 10 = .ok (.iload_n 2, 1) := by decide +kernel
theorem dX7_recast_11 : decode cX7_recast 11 = .ok (.invokestatic 130, 3) := by decide +kernel
theorem dX7_recast_14 : decode cX7_recast 14 = .ok (.ifCond .ne 6, 3) := by decide +kernel
theorem dX7_recast_17 : decode cX7_recast 17 = .ok (.bipush (-2), 2) := by decide +kernel
theorem dX7_recast_19 : decode cX7_recast 19 = .ok (.ireturn, 1) := by decide +kernel
theorem dX7_recast_20 : decode cX7_recast 20 = .ok (.aload_n 0, 1) := by decide +kernel
theorem dX7_recast_21 : decode cX7_recast 21 = .ok (.getfield 22, 3) := by decide +kernel
theorem dX7_recast_24 : decode cX7_recast 24 = .ok (.iload_n 1, 1) := by decide +kernel
theorem dX7_recast_25 : decode cX7_recast 25 = .ok (.iaload, 1) := by decide +kernel
theorem dX7_recast_26 : decode cX7_recast 26 = .ok (.istore_n 3, 1) := by decide +kernel
theorem dX7_recast_27 : decode cX7_recast 27 = .ok (.aload_n 0, 1) := by decide +kernel
theorem dX7_recast_28 : decode cX7_recast 28 = .ok (.getfield 22, 3) := by decide +kernel
theorem dX7_recast_31 : decode cX7_recast 31 = .ok (.iload_n 1, 1) := by decide +kernel
theorem dX7_recast_32 : decode cX7_recast 32 = .ok (.iload_n 2, 1) := by decide +kernel
theorem dX7_recast_33 : decode cX7_recast 33 = .ok (.iastore, 1) := by decide +kernel
theorem dX7_recast_34 : decode cX7_recast 34 = .ok (.iload_n 3, 1) := by decide +kernel
theorem dX7_recast_35 : decode cX7_recast 35 = .ok (.ireturn, 1) := by decide +kernel
set_option maxRecDepth 20000 in
theorem ggX7_go_X7_isBell : GoodIn wsX7_go wsX7_isBell := goodIn_r _ [6, 7, 14, 15, 16, 17, 18, 19, 20, 21, 22, 23, 24, 25, 26, 27, 28, 29, 30, 31, 32, 33, 34, 35, 36, 37, 38, 39, 40, 41] (by decide +kernel) (by decide +kernel)
set_option maxRecDepth 20000 in
theorem gX7_go_X7_isBell : GoodIn wsX7_go (wsV RX7 124 RX7 yX7_isBell wsX7_isBell) := goodIn_app (goodIn_of _ (by decide +kernel)) ggX7_go_X7_isBell
set_option maxRecDepth 20000 in
theorem ggX7_go_X7_isDigit : GoodIn wsX7_go wsX7_isDigit := goodIn_r _ [10, 11, 12, 5, 13] (by decide +kernel) (by decide +kernel)
set_option maxRecDepth 20000 in
theorem gX7_go_X7_isDigit : GoodIn wsX7_go (va_wsS RX7 130 yX7_isDigit wsX7_isDigit) := goodIn_app (goodIn_of _ (by decide +kernel)) ggX7_go_X7_isDigit
theorem dX7_go_0 : decode cX7_go 0 = .ok (.aload_n 0, 1) := by decide +kernel
theorem dX7_go_1 : decode cX7_go 1 = .ok (.iload_n 1, 1) := by decide +kernel
theorem dX7_go_2 : decode cX7_go 2 = .ok (.invokevirtual 124, 3) := by decide +kernel
theorem dX7_go_5 : decode cX7_go 5 = .ok (.ifCond .ne 5, 3) := by decide +kernel
theorem dX7_go_8 : decode cX7_go 8 = .ok (.iconst (-1), 1) := by decide +kernel
theorem dX7_go_9 : decode cX7_go 9 = .ok (.ireturn, 1) := by decide +kernel
theorem dX7_go_10 : decode cX7_go 10 = .ok (.iload_n 2, 1) := by decide +kernel
theorem dX7_go_11 : decode cX7_go 11 = .ok (.invokestatic 130, 3) := by decide +kernel
theorem dX7_go_14 : decode cX7_go 14 = .ok (.ifCond .ne 6, 3) := by decide +kernel
theorem dX7_go_17 : decode cX7_go 17 = .ok (.bipush (-2), 2) := by decide +kernel
theorem dX7_go_19 : decode cX7_go 19 = .ok (.ireturn, 1) := by decide +kernel
theorem dX7_go_20 : decode cX7_go 20 = .ok (.aload_n 0, 1) := by decide +kernel
theorem dX7_go_21 : decode cX7_go 21 = .ok (.getfield 25, 3) := by decide +kernel
theorem dX7_go_24 : decode cX7_go 24 = .ok (.iload_n 1, 1) := by decide +kernel
theorem dX7_go_25 : decode cX7_go 25 = .ok (.iaload, 1) := by decide +kernel
theorem dX7_go_26 : decode cX7_go 26 = .ok (.istore_n 3, 1) := by decide +kernel
theorem dX7_go_27 : decode cX7_go 27 = .ok (.aload_n 0, 1) := by decide +kernel
theorem dX7_go_28 : decode cX7_go 28 = .ok (.getfield 25, 3) := by decide +kernel
theorem dX7_go_31 : decode cX7_go 31 = .ok (.iload_n 1, 1) := by decide +kernel
theorem dX7_go_32 : decode cX7_go 32 = .ok (.iload_n 2, 1) := by decide +kernel
theorem dX7_go_33 : decode cX7_go 33 = .ok (.iastore, 1) := by decide +kernel
theorem dX7_go_34 : decode cX7_go 34 = .ok (.iload_n 3, 1) := by decide +kernel
theorem dX7_go_35 : decode cX7_go 35 = .ok (.ireturn, 1) := by decide +kernel
set_option maxRecDepth 20000 in
theorem ggX7_blow_X7_within : GoodIn wsX7_blow wsX7_within := goodIn_r _ [6] (by decide +kernel) (by decide +kernel)
set_option maxRecDepth 20000 in
theorem gX7_blow_X7_within : GoodIn wsX7_blow (va_wsS RX7 67 yX7_within wsX7_within) := goodIn_app (goodIn_of _ (by decide +kernel)) ggX7_blow_X7_within
theorem dX7_blow_0 : decode cX7_blow 0 = .ok (.iload_n 1, 1) := by decide +kernel
theorem dX7_blow_1 : decode cX7_blow 1 = .ok (.iconst 0, 1) := by decide +kernel
theorem dX7_blow_2 : decode cX7_blow 2 = .ok (.iconst 2, 1) := by decide +kernel
theorem dX7_blow_3 : decode cX7_blow 3 = .ok (.invokestatic 67, 3) := by decide +kernel
theorem dX7_blow_6 : decode cX7_blow 6 = .ok (.ifCond .ne 6, 3) := by decide +kernel
theorem dX7_blow_9 : decode cX7_blow 9 = .ok (.bipush (-2), 2) := by decide +kernel
theorem dX7_blow_11 : decode cX7_blow 11 = .ok (.ireturn, 1) := by decide +kernel
theorem dX7_blow_12 : decode cX7_blow 12 = .ok (.aload_n 0, 1) := by decide +kernel
theorem dX7_blow_13 : decode cX7_blow 13 = .ok (.getfield 71, 3) := by decide +kernel
theorem dX7_blow_16 : decode cX7_blow 16 = .ok (.ifCond .ne 6, 3) := by decide +kernel
theorem dX7_blow_19 : decode cX7_blow 19 = .ok (.bipush (-3), 2) := by decide +kernel
theorem dX7_blow_21 : decode cX7_blow 21 = .ok (.ireturn, 1) := by decide +kernel
theorem dX7_blow_22 : decode cX7_blow 22 = .ok (.aload_n 0, 1) := by decide +kernel
theorem dX7_blow_23 : decode cX7_blow 23 = .ok (.getfield 98, 3) := by decide +kernel
theorem dX7_blow_26 : decode cX7_blow 26 = .ok (.istore_n 2, 1) := by decide +kernel
theorem dX7_blow_27 : decode cX7_blow 27 = .ok (.aload_n 0, 1) := by decide +kernel
theorem dX7_blow_28 : decode cX7_blow 28 = .ok (.iload_n 1, 1) := by decide +kernel
theorem dX7_blow_29 : decode cX7_blow 29 = .ok (.putfield 98, 3) := by decide +kernel
theorem dX7_blow_32 : decode cX7_blow 32 = .ok (.iload_n 2, 1) := by decide +kernel
theorem dX7_blow_33 : decode cX7_blow 33 = .ok (.ireturn, 1) := by decide +kernel
theorem dX7_soundIn_0 : decode cX7_soundIn 0 = .ok (.aload_n 0, 1) := by decide +kernel
theorem dX7_soundIn_1 : decode cX7_soundIn 1 = .ok (.getfield 22, 3) := by decide +kernel
theorem dX7_soundIn_4 : decode cX7_soundIn 4 = .ok (.iload_n 1, 1) := by decide +kernel
theorem dX7_soundIn_5 : decode cX7_soundIn 5 = .ok (.iaload, 1) := by decide +kernel
theorem dX7_soundIn_6 : decode cX7_soundIn 6 = .ok (.iload_n 2, 1) := by decide +kernel
theorem dX7_soundIn_7 : decode cX7_soundIn 7 = .ok (.iadd, 1) := by decide +kernel
theorem dX7_soundIn_8 : decode cX7_soundIn 8 = .ok (.aload_n 0, 1) := by decide +kernel
theorem dX7_soundIn_9 : decode cX7_soundIn 9 = .ok (.getfield 98, 3) := by decide +kernel
theorem dX7_soundIn_12 : decode cX7_soundIn 12 = .ok (.iadd, 1) := by decide +kernel
theorem dX7_soundIn_13 : decode cX7_soundIn 13 = .ok (.istore_n 3, 1) := by decide +kernel
theorem dX7_soundIn_14 : decode cX7_soundIn 14 = .ok (.aload_n 0, 1) := by decide +kernel
theorem dX7_soundIn_15 : decode cX7_soundIn 15 = .ok (.getfield 19, 3) := by decide +kernel
theorem dX7_soundIn_18 : decode cX7_soundIn 18 = .ok (.iload_n 1, 1) := by decide +kernel
theorem dX7_soundIn_19 : decode cX7_soundIn 19 = .ok (.iaload, 1) := by decide +kernel
theorem dX7_soundIn_20 : decode cX7_soundIn 20 = .ok (.iconst 1, 1) := by decide +kernel
theorem dX7_soundIn_21 : decode cX7_soundIn 21 = .ok (.if_icmp .ne 15, 3) := by decide +kernel
theorem dX7_soundIn_24 : decode cX7_soundIn 24 = .ok (.iload_n 3, 1) := by decide +kernel
theorem dX7_soundIn_25 : decode cX7_soundIn 25 = .ok (.ifCond .le 9, 3) := by decide +kernel
theorem dX7_soundIn_28 : decode cX7_soundIn 28 = .ok (.iload_n 3, 1) := by decide +kernel
theorem dX7_soundIn_29 : decode cX7_soundIn 29 = .ok (.iconst 1, 1) := by decide +kernel
theorem dX7_soundIn_30 : decode cX7_soundIn 30 = .ok (.isub, 1) := by decide +kernel
theorem dX7_soundIn_31 : decode cX7_soundIn 31 = .ok (.goto 4, 3) := by decide +kernel
theorem dX7_soundIn_34 : decode cX7_soundIn 34 = .ok (.iconst 0, 1) := by decide +kernel
theorem dX7_soundIn_35 : decode cX7_soundIn 35 = .ok (.ireturn, 1) := by decide +kernel
theorem dX7_soundIn_36 : decode cX7_soundIn 36 = .ok (.aload_n 0, 1) := by decide +kernel
theorem dX7_soundIn_37 : decode cX7_soundIn 37 = .ok (.getfield 19, 3) := by decide +kernel
theorem dX7_soundIn_40 : decode cX7_soundIn 40 = .ok (.iload_n 1, 1) := by decide +kernel
theorem dX7_soundIn_41 : decode cX7_soundIn 41 = .ok (.iaload, 1) := by decide +kernel
theorem dX7_soundIn_42 : decode cX7_soundIn 42 = .ok (.ifCond .ne 7, 3) := by decide +kernel
theorem dX7_soundIn_45 : decode cX7_soundIn 45 = .ok (.iload_n 3, 1) := by decide +kernel
theorem dX7_soundIn_46 : decode cX7_soundIn 46 = .ok (.goto 6, 3) := by decide +kernel
theorem dX7_soundIn_49 : decode cX7_soundIn 49 = .ok (.iload_n 3, 1) := by decide +kernel
theorem dX7_soundIn_50 : decode cX7_soundIn 50 = .ok (.iconst 2, 1) := by decide +kernel
theorem dX7_soundIn_51 : decode cX7_soundIn 51 = .ok (.idiv, 1) := by decide +kernel
theorem dX7_soundIn_52 : decode cX7_soundIn 52 = .ok (.ireturn, 1) := by decide +kernel
set_option maxRecDepth 20000 in
theorem ggX7_sound_X7_isBell : GoodIn wsX7_sound wsX7_isBell := goodIn_r _ [6, 7, 21, 22, 23, 24, 25, 26, 27, 28, 29, 30, 31, 32, 33, 34, 35, 36, 37, 38, 39, 40, 41, 42, 43, 44, 45, 46, 47, 48] (by decide +kernel) (by decide +kernel)
set_option maxRecDepth 20000 in
theorem gX7_sound_X7_isBell : GoodIn wsX7_sound (wsV RX7 124 RX7 yX7_isBell wsX7_isBell) := goodIn_app (goodIn_of _ (by decide +kernel)) ggX7_sound_X7_isBell
set_option maxRecDepth 20000 in
theorem ggX7_sound_X7_soundIn : GoodIn wsX7_sound wsX7_soundIn := goodIn_r _ [11, 12, 13, 14, 21, 22, 23, 24, 25, 26, 27, 28, 29, 30, 31, 32, 33, 34, 35, 36, 37, 38, 39, 40, 41, 42, 43, 44, 45, 46, 47, 48] (by decide +kernel) (by decide +kernel)
set_option maxRecDepth 20000 in
theorem gX7_sound_X7_soundIn : GoodIn wsX7_sound (wsV RX7 133 RX7 yX7_soundIn wsX7_soundIn) := goodIn_app (goodIn_of _ (by decide +kernel)) ggX7_sound_X7_soundIn
set_option maxRecDepth 20000 in
theorem ggX7_sound_X7_isMood : GoodIn wsX7_sound wsX7_isMood := goodIn_r _ [17, 18, 19, 5, 20] (by decide +kernel) (by decide +kernel)
set_option maxRecDepth 20000 in
theorem gX7_sound_X7_isMood : GoodIn wsX7_sound (va_wsS RX7 127 yX7_isMood wsX7_isMood) := goodIn_app (goodIn_of _ (by decide +kernel)) ggX7_sound_X7_isMood
theorem dX7_sound_0 : decode cX7_sound 0 = .ok (.aload_n 0, 1) := by decide +kernel
theorem dX7_sound_1 : decode cX7_sound 1 = .ok (.iload_n 1, 1) := by decide +kernel
theorem dX7_sound_2 : decode cX7_sound 2 = .ok (.invokevirtual 124, 3) := by decide +kernel
theorem dX7_sound_5 : decode cX7_sound 5 = .ok (.ifCond .ne 5, 3) := by decide +kernel
theorem dX7_sound_8 : decode cX7_sound 8 = .ok (.iconst (-1), 1) := by decide +kernel
theorem dX7_sound_9 : decode cX7_sound 9 = .ok (.ireturn, 1) := by decide +kernel
theorem dX7_sound_10 : decode cX7_sound 10 = .ok (.iload_n 2, 1) := by decide +kernel
theorem dX7_sound_11 : decode cX7_sound 11 = .ok (.bipush (-9), 2) := by decide +kernel
theorem dX7_sound_13 : decode cX7_sound 13 = .ok (.if_icmp .ne 15, 3) := by decide +kernel
theorem dX7_sound_16 : decode cX7_sound 16 = .ok (.aload_n 0, 1) := by decide +kernel
theorem dX7_sound_17 : decode cX7_sound 17 = .ok (.iload_n 1, 1) := by decide +kernel
theorem dX7_sound_18 : decode cX7_sound 18 = .ok (.aload_n 0, 1) := by decide +kernel
theorem dX7_sound_19 : decode cX7_sound 19 = .ok (.getfield 28, 3) := by decide +kernel
theorem dX7_sound_22 : decode cX7_sound 22 = .ok (.iload_n 1, 1) := by decide +kernel
theorem dX7_sound_23 : decode cX7_sound 23 = .ok (.iaload, 1) := by decide +kernel
theorem dX7_sound_24 : decode cX7_sound 24 = .ok (.invokevirtual 133, 3) := by decide +kernel
theorem dX7_sound_27 : decode cX7_sound 27 = .ok (.ireturn, 1) := by decide +kernel
theorem dX7_sound_28 : decode cX7_sound 28 = .ok (.iload_n 2, 1) := by decide +kernel
theorem dX7_sound_29 : decode cX7_sound 29 = .ok (.invokestatic 127, 3) := by decide +kernel
theorem dX7_sound_32 : decode cX7_sound 32 = .ok (.ifCond .eq 12, 3) := by decide +kernel
theorem dX7_sound_35 : decode cX7_sound 35 = .ok (.aload_n 0, 1) := by decide +kernel
theorem dX7_sound_36 : decode cX7_sound 36 = .ok (.iload_n 1, 1) := by decide +kernel
theorem dX7_sound_37 : decode cX7_sound 37 = .ok (.iload_n 2, 1) := by decide +kernel
theorem dX7_sound_38 : decode cX7_sound 38 = .ok (.invokevirtual 133, 3) := by decide +kernel
theorem dX7_sound_41 : decode cX7_sound 41 = .ok (.goto 5, 3) := by decide +kernel
theorem dX7_sound_44 : decode cX7_sound 44 = .ok (.bipush (-2), 2) := by decide +kernel
theorem dX7_sound_46 : decode cX7_sound 46 = .ok (.ireturn, 1) := by decide +kernel
theorem dX7_apart_0 : decode cX7_apart 0 = .ok (.iload_n 0, 1) := by decide +kernel
theorem dX7_apart_1 : decode cX7_apart 1 = .ok (.iload_n 1, 1) := by decide +kernel
theorem dX7_apart_2 : decode cX7_apart 2 = .ok (.if_icmp .ge 9, 3) := by decide +kernel
theorem dX7_apart_5 : decode cX7_apart 5 = .ok (.iload_n 1, 1) := by decide +kernel
theorem dX7_apart_6 : decode cX7_apart 6 = .ok (.iload_n 0, 1) := by decide +kernel
theorem dX7_apart_7 : decode cX7_apart 7 = .ok (.isub, 1) := by decide +kernel
theorem dX7_apart_8 : decode cX7_apart 8 = .ok (.goto 6, 3) := by decide +kernel
theorem dX7_apart_11 : decode cX7_apart 11 = .ok (.iload_n 0, 1) := by decide +kernel
theorem dX7_apart_12 : decode cX7_apart 12 = .ok (.iload_n 1, 1) := by decide +kernel
theorem dX7_apart_13 : decode cX7_apart 13 = .ok (.isub, 1) := by decide +kernel
theorem dX7_apart_14 : decode cX7_apart 14 = .ok (.ireturn, 1) := by decide +kernel
set_option maxRecDepth 20000 in
theorem ggX7_isHeard_X7_apart : GoodIn wsX7_isHeard wsX7_apart := goodIn_r _ [6] (by decide +kernel) (by decide +kernel)
set_option maxRecDepth 20000 in
theorem gX7_isHeard_X7_apart : GoodIn wsX7_isHeard (va_wsS RX7 136 yX7_apart wsX7_apart) := goodIn_app (goodIn_of _ (by decide +kernel)) ggX7_isHeard_X7_apart
theorem dX7_isHeard_0 : decode cX7_isHeard 0 = .ok (.aload_n 0, 1) := by decide +kernel
theorem dX7_isHeard_1 : decode cX7_isHeard 1 = .ok (.getfield 25, 3) := by decide +kernel
theorem dX7_isHeard_4 : decode cX7_isHeard 4 = .ok (.iload_n 1, 1) := by decide +kernel
theorem dX7_isHeard_5 : decode cX7_isHeard 5 = .ok (.iaload, 1) := by decide +kernel
theorem dX7_isHeard_6 : decode cX7_isHeard 6 = .ok (.iload_n 2, 1) := by decide +kernel
theorem dX7_isHeard_7 : decode cX7_isHeard 7 = .ok (.invokestatic 136, 3) := by decide +kernel
theorem dX7_isHeard_10 : decode cX7_isHeard 10 = .ok (.aload_n 0, 1) := by decide +kernel
theorem dX7_isHeard_11 : decode cX7_isHeard 11 = .ok (.getfield 104, 3) := by decide +kernel
theorem dX7_isHeard_14 : decode cX7_isHeard 14 = .ok (.if_icmp .gt 7, 3) := by decide +kernel
theorem dX7_isHeard_17 : decode cX7_isHeard 17 = .ok (.iconst 1, 1) := by decide +kernel
theorem dX7_isHeard_18 : decode cX7_isHeard 18 = .ok (.goto 4, 3) := by decide +kernel
theorem dX7_isHeard_21 : decode cX7_isHeard 21 = .ok (.iconst 0, 1) := by decide +kernel
theorem dX7_isHeard_22 : decode cX7_isHeard 22 = .ok (.ireturn, 1) := by decide +kernel
set_option maxRecDepth 20000 in
theorem ggX7_heardAt_X7_isHeard : GoodIn wsX7_heardAt wsX7_isHeard := goodIn_r _ [6, 7, 8, 9, 10, 5, 11, 12, 13, 14, 15, 16, 17, 18, 19, 20, 21, 22, 23, 24, 25, 26, 27, 28, 29, 30, 31, 32, 33, 34, 35, 36, 37, 38, 39] (by decide +kernel) (by decide +kernel)
set_option maxRecDepth 20000 in
theorem gX7_heardAt_X7_isHeard : GoodIn wsX7_heardAt (wsV RX7 139 RX7 yX7_isHeard wsX7_isHeard) := goodIn_app (goodIn_of _ (by decide +kernel)) ggX7_heardAt_X7_isHeard
theorem dX7_heardAt_0 : decode cX7_heardAt 0 = .ok (.iconst 0, 1) := by decide +kernel
theorem dX7_heardAt_1 : decode cX7_heardAt 1 = .ok (.istore_n 2, 1) := by decide +kernel
theorem dX7_heardAt_2 : decode cX7_heardAt 2 = .ok (.iconst 0, 1) := by decide +kernel
theorem dX7_heardAt_3 : decode cX7_heardAt 3 = .ok (.istore_n 3, 1) := by decide +kernel
theorem dX7_heardAt_4 : decode cX7_heardAt 4 = .ok (.iload_n 3, 1) := by decide +kernel
theorem dX7_heardAt_5 : decode cX7_heardAt 5 = .ok (.aload_n 0, 1) := by decide +kernel
theorem dX7_heardAt_6 : decode cX7_heardAt 6 = .ok (.getfield 71, 3) := by decide +kernel
theorem dX7_heardAt_9 : decode cX7_heardAt 9 = .ok (.if_icmp .ge 28, 3) := by decide +kernel
theorem dX7_heardAt_12 : decode cX7_heardAt 12 = .ok (.iload_n 2, 1) := by decide +kernel
theorem dX7_heardAt_13 : decode cX7_heardAt 13 = .ok (.aload_n 0, 1) := by decide +kernel
theorem dX7_heardAt_14 : decode cX7_heardAt 14 = .ok (.iload_n 3, 1) := by decide +kernel
theorem dX7_heardAt_15 : decode cX7_heardAt 15 = .ok (.iload_n 1, 1) := by decide +kernel
theorem dX7_heardAt_16 : decode cX7_heardAt 16 = .ok (.invokevirtual 139, 3) := by decide +kernel
theorem dX7_heardAt_19 : decode cX7_heardAt 19 = .ok (.ifCond .eq 9, 3) := by decide +kernel
theorem dX7_heardAt_22 : decode cX7_heardAt 22 = .ok (.iconst 1, 1) := by decide +kernel
theorem dX7_heardAt_23 : decode cX7_heardAt 23 = .ok (.iload_n 3, 1) := by decide +kernel
theorem dX7_heardAt_24 : decode cX7_heardAt 24 = .ok (.ishl, 1) := by decide +kernel
theorem dX7_heardAt_25 : decode cX7_heardAt 25 = .ok (.goto 4, 3) := by decide +kernel
theorem dX7_heardAt_28 : decode cX7_heardAt 28 = .ok (.iconst 0, 1) := by decide +kernel
theorem dX7_heardAt_29 : decode cX7_heardAt 29 = .ok (.ior, 1) := by decide +kernel
theorem dX7_heardAt_30 : decode cX7_heardAt 30 = .ok (.istore_n 2, 1) := by decide +kernel
theorem dX7_heardAt_31 : decode cX7_heardAt 31 = .ok (.iinc 3 1, 3) := by decide +kernel
theorem dX7_heardAt_34 : decode cX7_heardAt 34 = .ok (.goto (-30), 3) := by decide +kernel
theorem dX7_heardAt_37 : decode cX7_heardAt 37 = .ok (.iload_n 2, 1) := by decide +kernel
theorem dX7_heardAt_38 : decode cX7_heardAt 38 = .ok (.ireturn, 1) := by decide +kernel
set_option maxRecDepth 20000 in
theorem ggX7_heard_X7_isDigit : GoodIn wsX7_heard wsX7_isDigit := goodIn_r _ [5, 6, 7, 4, 8] (by decide +kernel) (by decide +kernel)
set_option maxRecDepth 20000 in
theorem gX7_heard_X7_isDigit : GoodIn wsX7_heard (va_wsS RX7 130 yX7_isDigit wsX7_isDigit) := goodIn_app (goodIn_of _ (by decide +kernel)) ggX7_heard_X7_isDigit
set_option maxRecDepth 20000 in
theorem ggX7_heard_X7_heardAt : GoodIn wsX7_heard wsX7_heardAt := goodIn_r _ [12, 1, 13, 14, 15, 4, 16, 17, 18, 19, 20, 21, 22, 23, 24, 25, 26, 27, 28, 29, 30, 31, 32, 33, 34, 35, 36, 37, 38, 39, 40, 41, 42, 43, 44, 45, 46, 47, 48, 49] (by decide +kernel) (by decide +kernel)
set_option maxRecDepth 20000 in
theorem gX7_heard_X7_heardAt : GoodIn wsX7_heard (wsV RX7 142 RX7 yX7_heardAt wsX7_heardAt) := goodIn_app (goodIn_of _ (by decide +kernel)) ggX7_heard_X7_heardAt
theorem dX7_heard_0 : decode cX7_heard 0 = .ok (.iload_n 1, 1) := by decide +kernel
theorem dX7_heard_1 : decode cX7_heard 1 = .ok (.invokestatic 130, 3) := by decide +kernel
theorem dX7_heard_4 : decode cX7_heard 4 = .ok (.ifCond .ne 6, 3) := by decide +kernel
theorem dX7_heard_7 : decode cX7_heard 7 = .ok (.bipush (-2), 2) := by decide +kernel
theorem dX7_heard_9 : decode cX7_heard 9 = .ok (.ireturn, 1) := by decide +kernel
theorem dX7_heard_10 : decode cX7_heard 10 = .ok (.aload_n 0, 1) := by decide +kernel
theorem dX7_heard_11 : decode cX7_heard 11 = .ok (.getfield 71, 3) := by decide +kernel
theorem dX7_heard_14 : decode cX7_heard 14 = .ok (.ifCond .ne 8, 3) := by decide +kernel
theorem dX7_heard_17 : decode cX7_heard 17 = .ok (.bipush (-3), 2) := by decide +kernel
theorem dX7_heard_19 : decode cX7_heard 19 = .ok (.goto 8, 3) := by decide +kernel
theorem dX7_heard_22 : decode cX7_heard 22 = .ok (.aload_n 0, 1) := by decide +kernel
theorem dX7_heard_23 : decode cX7_heard 23 = .ok (.iload_n 1, 1) := by decide +kernel
theorem dX7_heard_24 : decode cX7_heard 24 = .ok (.invokevirtual 142, 3) := by decide +kernel
theorem dX7_heard_27 : decode cX7_heard 27 = .ok (.ireturn, 1) := by decide +kernel
set_option maxRecDepth 20000 in
theorem ggX7_taken_X7_isDigit : GoodIn wsX7_taken wsX7_isDigit := goodIn_r _ [6, 7, 8, 5, 9] (by decide +kernel) (by decide +kernel)
set_option maxRecDepth 20000 in
theorem gX7_taken_X7_isDigit : GoodIn wsX7_taken (va_wsS RX7 130 yX7_isDigit wsX7_isDigit) := goodIn_app (goodIn_of _ (by decide +kernel)) ggX7_taken_X7_isDigit
set_option maxRecDepth 20000 in
theorem ggX7_taken_X7_within : GoodIn wsX7_taken wsX7_within := goodIn_r _ [9] (by decide +kernel) (by decide +kernel)
set_option maxRecDepth 20000 in
theorem gX7_taken_X7_within : GoodIn wsX7_taken (va_wsS RX7 67 yX7_within wsX7_within) := goodIn_app (goodIn_of _ (by decide +kernel)) ggX7_taken_X7_within
set_option maxRecDepth 20000 in
theorem ggX7_taken_X7_soundIn : GoodIn wsX7_taken wsX7_soundIn := goodIn_r _ [13, 14, 15, 16, 26, 27, 28, 29, 30, 31, 32, 33, 34, 35, 36, 37, 38, 39, 40, 41, 42, 43, 44, 45, 46, 47, 48, 49, 50, 51, 52, 53] (by decide +kernel) (by decide +kernel)
set_option maxRecDepth 20000 in
theorem gX7_taken_X7_soundIn : GoodIn wsX7_taken (wsV RX7 133 RX7 yX7_soundIn wsX7_soundIn) := goodIn_app (goodIn_of _ (by decide +kernel)) ggX7_taken_X7_soundIn
set_option maxRecDepth 20000 in
theorem ggX7_taken_X7_apart : GoodIn wsX7_taken wsX7_apart := goodIn_r _ [19] (by decide +kernel) (by decide +kernel)
set_option maxRecDepth 20000 in
theorem gX7_taken_X7_apart : GoodIn wsX7_taken (va_wsS RX7 136 yX7_apart wsX7_apart) := goodIn_app (goodIn_of _ (by decide +kernel)) ggX7_taken_X7_apart
set_option maxRecDepth 20000 in
theorem ggX7_taken_X7_isHeard : GoodIn wsX7_taken wsX7_isHeard := goodIn_r _ [23, 24, 25, 17, 18, 5, 19, 26, 27, 28, 29, 30, 31, 32, 33, 34, 35, 36, 37, 38, 39, 40, 41, 42, 43, 44, 45, 46, 47, 48, 49, 50, 51, 52, 53] (by decide +kernel) (by decide +kernel)
set_option maxRecDepth 20000 in
theorem gX7_taken_X7_isHeard : GoodIn wsX7_taken (wsV RX7 139 RX7 yX7_isHeard wsX7_isHeard) := goodIn_app (goodIn_of _ (by decide +kernel)) ggX7_taken_X7_isHeard
theorem dX7_taken_0 : decode cX7_taken 0 = .ok (.iload_n 1, 1) := by decide +kernel
theorem dX7_taken_1 : decode cX7_taken 1 = .ok (.invokestatic 130, 3) := by decide +kernel
theorem dX7_taken_4 : decode cX7_taken 4 = .ok (.ifCond .eq 13, 3) := by decide +kernel
theorem dX7_taken_7 : decode cX7_taken 7 = .ok (.iload_n 2, 1) := by decide +kernel
theorem dX7_taken_8 : decode cX7_taken 8 = .ok (.iconst 0, 1) := by decide +kernel
theorem dX7_taken_9 : decode cX7_taken 9 = .ok (.bipush 19, 2) := by decide +kernel
theorem dX7_taken_11 : decode cX7_taken 11 = .ok (.invokestatic 67, 3) := by decide +kernel
theorem dX7_taken_14 : decode cX7_taken 14 = .ok (.ifCond .ne 6, 3) := by decide +kernel
theorem dX7_taken_17 : decode cX7_taken 17 = .ok (.bipush (-2), 2) := by decide +kernel
theorem dX7_taken_19 : decode cX7_taken 19 = .ok (.ireturn, 1) := by decide +kernel
theorem dX7_taken_20 : decode cX7_taken 20 = .ok (.aload_n 0, 1) := by decide +kernel
theorem dX7_taken_21 : decode cX7_taken 21 = .ok (.getfield 71, 3) := by decide +kernel
theorem dX7_taken_24 : decode cX7_taken 24 = .ok (.ifCond .ne 6, 3) := by decide +kernel
theorem dX7_taken_27 : decode cX7_taken 27 = .ok (.bipush (-3), 2) := by decide +kernel
theorem dX7_taken_29 : decode cX7_taken 29 = .ok (.ireturn, 1) := by decide +kernel
theorem dX7_taken_30 : decode cX7_taken 30 = .ok (.bipush (-9), 2) := by decide +kernel
theorem dX7_taken_32 : decode cX7_taken 32 = .ok (.istore_n 3, 1) := by decide +kernel
theorem dX7_taken_33 : decode cX7_taken 33 = .ok (.iconst 0, 1) := by decide +kernel
theorem dX7_taken_34 : decode cX7_taken 34 = .ok (.istore 4, 2) := by decide +kernel
theorem dX7_taken_36 : decode cX7_taken 36 = .ok (.iconst 0, 1) := by decide +kernel
theorem dX7_taken_37 : decode cX7_taken 37 = .ok (.istore 5, 2) := by decide +kernel
theorem dX7_taken_39 : decode cX7_taken 39 = .ok (.iload 5, 2) := by decide +kernel
theorem dX7_taken_41 : decode cX7_taken 41 = .ok (.aload_n 0, 1) := by decide +kernel
theorem dX7_taken_42 : decode cX7_taken 42 = .ok (.getfield 71, 3) := by decide +kernel
theorem dX7_taken_45 : decode cX7_taken 45 = .ok (.if_icmp .ge 58, 3) := by decide +kernel
theorem dX7_taken_48 : decode cX7_taken 48 = .ok (.aload_n 0, 1) := by decide +kernel
theorem dX7_taken_49 : decode cX7_taken 49 = .ok (.iload 5, 2) := by decide +kernel
theorem dX7_taken_51 : decode cX7_taken 51 = .ok (.aload_n 0, 1) := by decide +kernel
theorem dX7_taken_52 : decode cX7_taken 52 = .ok (.getfield 28, 3) := by decide +kernel
theorem dX7_taken_55 : decode cX7_taken 55 = .ok (.iload 5, 2) := by decide +kernel
theorem dX7_taken_57 : decode cX7_taken 57 = .ok (.iaload, 1) := by decide +kernel
theorem dX7_taken_58 : decode cX7_taken 58 = .ok (.invokevirtual 133, 3) := by decide +kernel
theorem dX7_taken_61 : decode cX7_taken 61 = .ok (.iload_n 2, 1) := by decide +kernel
theorem dX7_taken_62 : decode cX7_taken 62 = .ok (.invokestatic 136, 3) := by decide +kernel
theorem dX7_taken_65 : decode cX7_taken 65 = .ok (.istore 6, 2) := by decide +kernel
theorem dX7_taken_67 : decode cX7_taken 67 = .ok (.aload_n 0, 1) := by decide +kernel
theorem dX7_taken_68 : decode cX7_taken 68 = .ok (.iload 5, 2) := by decide +kernel
theorem dX7_taken_70 : decode cX7_taken 70 = .ok (.iload_n 1, 1) := by decide +kernel
theorem dX7_taken_71 : decode cX7_taken 71 = .ok (.invokevirtual 139, 3) := by decide +kernel
theorem dX7_taken_74 : decode cX7_taken 74 = .ok (.ifCond .eq 23, 3) := by decide +kernel
theorem dX7_taken_77 : decode cX7_taken 77 = .ok (.iload_n 3, 1) := by decide +kernel
theorem dX7_taken_78 : decode cX7_taken 78 = .ok (.bipush (-9), 2) := by decide +kernel
theorem dX7_taken_80 : decode cX7_taken 80 = .ok (.if_icmp .eq 10, 3) := by decide +kernel
theorem dX7_taken_83 : decode cX7_taken 83 = .ok (.iload 6, 2) := by decide +kernel
theorem dX7_taken_85 : decode cX7_taken 85 = .ok (.iload 4, 2) := by decide +kernel
theorem dX7_taken_87 : decode cX7_taken 87 = .ok (.if_icmp .ge 10, 3) := by decide +kernel
theorem dX7_taken_90 : decode cX7_taken 90 = .ok (.iload 5, 2) := by decide +kernel
theorem dX7_taken_92 : decode cX7_taken 92 = .ok (.istore_n 3, 1) := by decide +kernel
theorem dX7_taken_93 : decode cX7_taken 93 = .ok (.iload 6, 2) := by decide +kernel
theorem dX7_taken_95 : decode cX7_taken 95 = .ok (.istore 4, 2) := by decide +kernel
theorem dX7_taken_97 : decode cX7_taken 97 = .ok (.iinc 5 1, 3) := by decide +kernel
theorem dX7_taken_100 : decode cX7_taken 100 = .ok (.goto (-61), 3) := by decide +kernel
theorem dX7_taken_103 : decode cX7_taken 103 = .ok (.iload_n 3, 1) := by decide +kernel
theorem dX7_taken_104 : decode cX7_taken 104 = .ok (.ireturn, 1) := by decide +kernel
set_option maxRecDepth 20000 in
theorem ggX7_canSound_X7_soundIn : GoodIn wsX7_canSound wsX7_soundIn := goodIn_r _ [5, 6, 7, 8, 9, 10, 11, 12, 13, 14, 15, 16, 17, 18, 19, 20, 21, 22, 23, 24, 25, 26, 27, 28, 29, 30, 31, 32, 33, 34, 35, 36] (by decide +kernel) (by decide +kernel)
set_option maxRecDepth 20000 in
theorem gX7_canSound_X7_soundIn : GoodIn wsX7_canSound (wsV RX7 133 RX7 yX7_soundIn wsX7_soundIn) := goodIn_app (goodIn_of _ (by decide +kernel)) ggX7_canSound_X7_soundIn
theorem dX7_canSound_0 : decode cX7_canSound 0 = .ok (.iconst 0, 1) := by decide +kernel
theorem dX7_canSound_1 : decode cX7_canSound 1 = .ok (.istore_n 3, 1) := by decide +kernel
theorem dX7_canSound_2 : decode cX7_canSound 2 = .ok (.iload_n 3, 1) := by decide +kernel
theorem dX7_canSound_3 : decode cX7_canSound 3 = .ok (.iconst 4, 1) := by decide +kernel
theorem dX7_canSound_4 : decode cX7_canSound 4 = .ok (.if_icmp .ge 21, 3) := by decide +kernel
theorem dX7_canSound_7 : decode cX7_canSound 7 = .ok (.aload_n 0, 1) := by decide +kernel
theorem dX7_canSound_8 : decode cX7_canSound 8 = .ok (.iload_n 1, 1) := by decide +kernel
theorem dX7_canSound_9 : decode cX7_canSound 9 = .ok (.iload_n 3, 1) := by decide +kernel
theorem dX7_canSound_10 : decode cX7_canSound 10 = .ok (.invokevirtual 133, 3) := by decide +kernel
theorem dX7_canSound_13 : decode cX7_canSound 13 = .ok (.iload_n 2, 1) := by decide +kernel
theorem dX7_canSound_14 : decode cX7_canSound 14 = .ok (.if_icmp .ne 5, 3) := by decide +kernel
theorem dX7_canSound_17 : decode cX7_canSound 17 = .ok (.iconst 1, 1) := by decide +kernel
theorem dX7_canSound_18 : decode cX7_canSound 18 = .ok (.ireturn, 1) := by decide +kernel
theorem dX7_canSound_19 : decode cX7_canSound 19 = .ok (.iinc 3 1, 3) := by decide +kernel
theorem dX7_canSound_22 : decode cX7_canSound 22 = .ok (.goto (-20), 3) := by decide +kernel
theorem dX7_canSound_25 : decode cX7_canSound 25 = .ok (.iconst 0, 1) := by decide +kernel
theorem dX7_canSound_26 : decode cX7_canSound 26 = .ok (.ireturn, 1) := by decide +kernel
set_option maxRecDepth 20000 in
theorem ggX7_meant_X7_isDigit : GoodIn wsX7_meant wsX7_isDigit := goodIn_r _ [5, 6, 7, 4, 8] (by decide +kernel) (by decide +kernel)
set_option maxRecDepth 20000 in
theorem gX7_meant_X7_isDigit : GoodIn wsX7_meant (va_wsS RX7 130 yX7_isDigit wsX7_isDigit) := goodIn_app (goodIn_of _ (by decide +kernel)) ggX7_meant_X7_isDigit
set_option maxRecDepth 20000 in
theorem ggX7_meant_X7_within : GoodIn wsX7_meant wsX7_within := goodIn_r _ [8] (by decide +kernel) (by decide +kernel)
set_option maxRecDepth 20000 in
theorem gX7_meant_X7_within : GoodIn wsX7_meant (va_wsS RX7 67 yX7_within wsX7_within) := goodIn_app (goodIn_of _ (by decide +kernel)) ggX7_meant_X7_within
set_option maxRecDepth 20000 in
theorem ggX7_meant_X7_isHeard : GoodIn wsX7_meant wsX7_isHeard := goodIn_r _ [12, 13, 14, 15, 16, 4, 17, 29, 30, 31, 32, 33, 34, 35, 36, 37, 38, 39, 40, 41, 42, 43, 44, 45, 46, 47, 48, 49, 50, 51, 52, 53, 54, 55, 56] (by decide +kernel) (by decide +kernel)
set_option maxRecDepth 20000 in
theorem gX7_meant_X7_isHeard : GoodIn wsX7_meant (wsV RX7 139 RX7 yX7_isHeard wsX7_isHeard) := goodIn_app (goodIn_of _ (by decide +kernel)) ggX7_meant_X7_isHeard
set_option maxRecDepth 20000 in
theorem ggX7_meant_X7_canSound : GoodIn wsX7_meant wsX7_canSound := goodIn_r _ [21, 22, 23, 24, 4, 25, 26, 27, 28, 29, 30, 31, 32, 33, 34, 35, 36, 37, 38, 39, 40, 41, 42, 43, 44, 45, 46, 47, 48, 49, 50, 51, 52, 53, 54, 55, 56] (by decide +kernel) (by decide +kernel)
set_option maxRecDepth 20000 in
theorem gX7_meant_X7_canSound : GoodIn wsX7_meant (wsV RX7 145 RX7 yX7_canSound wsX7_canSound) := goodIn_app (goodIn_of _ (by decide +kernel)) ggX7_meant_X7_canSound
theorem dX7_meant_0 : decode cX7_meant 0 = .ok (.iload_n 1, 1) := by decide +kernel
theorem dX7_meant_1 : decode cX7_meant 1 = .ok (.invokestatic 130, 3) := by decide +kernel
theorem dX7_meant_4 : decode cX7_meant 4 = .ok (.ifCond .eq 13, 3) := by decide +kernel
theorem dX7_meant_7 : decode cX7_meant 7 = .ok (.iload_n 2, 1) := by decide +kernel
theorem dX7_meant_8 : decode cX7_meant 8 = .ok (.iconst 0, 1) := by decide +kernel
theorem dX7_meant_9 : decode cX7_meant 9 = .ok (.bipush 19, 2) := by decide +kernel
theorem dX7_meant_11 : decode cX7_meant 11 = .ok (.invokestatic 67, 3) := by decide +kernel
theorem dX7_meant_14 : decode cX7_meant 14 = .ok (.ifCond .ne 6, 3) := by decide +kernel
theorem dX7_meant_17 : decode cX7_meant 17 = .ok (.bipush (-2), 2) := by decide +kernel
theorem dX7_meant_19 : decode cX7_meant 19 = .ok (.ireturn, 1) := by decide +kernel
theorem dX7_meant_20 : decode cX7_meant 20 = .ok (.aload_n 0, 1) := by decide +kernel
theorem dX7_meant_21 : decode cX7_meant 21 = .ok (.getfield 71, 3) := by decide +kernel
theorem dX7_meant_24 : decode cX7_meant 24 = .ok (.ifCond .ne 6, 3) := by decide +kernel
theorem dX7_meant_27 : decode cX7_meant 27 = .ok (.bipush (-3), 2) := by decide +kernel
theorem dX7_meant_29 : decode cX7_meant 29 = .ok (.ireturn, 1) := by decide +kernel
theorem dX7_meant_30 : decode cX7_meant 30 = .ok (.iconst 0, 1) := by decide +kernel
theorem dX7_meant_31 : decode cX7_meant 31 = .ok (.istore_n 3, 1) := by decide +kernel
theorem dX7_meant_32 : decode cX7_meant 32 = .ok (.iconst 0, 1) := by decide +kernel
theorem dX7_meant_33 : decode cX7_meant 33 = .ok (.istore 4, 2) := by decide +kernel
theorem dX7_meant_35 : decode cX7_meant 35 = .ok (.iload 4, 2) := by decide +kernel
theorem dX7_meant_37 : decode cX7_meant 37 = .ok (.aload_n 0, 1) := by decide +kernel
theorem dX7_meant_38 : decode cX7_meant 38 = .ok (.getfield 71, 3) := by decide +kernel
theorem dX7_meant_41 : decode cX7_meant 41 = .ok (.if_icmp .ge 40, 3) := by decide +kernel
theorem dX7_meant_44 : decode cX7_meant 44 = .ok (.iload_n 3, 1) := by decide +kernel
theorem dX7_meant_45 : decode cX7_meant 45 = .ok (.aload_n 0, 1) := by decide +kernel
theorem dX7_meant_46 : decode cX7_meant 46 = .ok (.iload 4, 2) := by decide +kernel
theorem dX7_meant_48 : decode cX7_meant 48 = .ok (.iload_n 1, 1) := by decide +kernel
theorem dX7_meant_49 : decode cX7_meant 49 = .ok (.invokevirtual 139, 3) := by decide +kernel
theorem dX7_meant_52 : decode cX7_meant 52 = .ok (.ifCond .eq 20, 3) := by decide +kernel
theorem dX7_meant_55 : decode cX7_meant 55 = .ok (.aload_n 0, 1) := by decide +kernel
theorem dX7_meant_56 : decode cX7_meant 56 = .ok (.iload 4, 2) := by decide +kernel
theorem dX7_meant_58 : decode cX7_meant 58 = .ok (.iload_n 2, 1) := by decide +kernel
theorem dX7_meant_59 : decode cX7_meant 59 = .ok (.invokevirtual 145, 3) := by decide +kernel
theorem dX7_meant_62 : decode cX7_meant 62 = .ok (.ifCond .eq 10, 3) := by decide +kernel
theorem dX7_meant_65 : decode cX7_meant 65 = .ok (.iconst 1, 1) := by decide +kernel
theorem dX7_meant_66 : decode cX7_meant 66 = .ok (.iload 4, 2) := by decide +kernel
theorem dX7_meant_68 : decode cX7_meant 68 = .ok (.ishl, 1) := by decide +kernel
theorem dX7_meant_69 : decode cX7_meant 69 = .ok (.goto 4, 3) := by decide +kernel
theorem dX7_meant_72 : decode cX7_meant 72 = .ok (.iconst 0, 1) := by decide +kernel
theorem dX7_meant_73 : decode cX7_meant 73 = .ok (.ior, 1) := by decide +kernel
theorem dX7_meant_74 : decode cX7_meant 74 = .ok (.istore_n 3, 1) := by decide +kernel
theorem dX7_meant_75 : decode cX7_meant 75 = .ok (.iinc 4 1, 3) := by decide +kernel
theorem dX7_meant_78 : decode cX7_meant 78 = .ok (.goto (-43), 3) := by decide +kernel
theorem dX7_meant_81 : decode cX7_meant 81 = .ok (.iload_n 3, 1) := by decide +kernel
theorem dX7_meant_82 : decode cX7_meant 82 = .ok (.ireturn, 1) := by decide +kernel
set_option maxRecDepth 20000 in
theorem ggX7_familyOf_X7_soundIn : GoodIn wsX7_familyOf wsX7_soundIn := goodIn_r _ [7, 8, 9, 10, 14, 15, 16, 17, 18, 19, 20, 21, 22, 23, 24, 25, 26, 27, 28, 29, 30, 31, 32, 33, 34, 35, 36, 37, 38, 39, 40, 41] (by decide +kernel) (by decide +kernel)
set_option maxRecDepth 20000 in
theorem gX7_familyOf_X7_soundIn : GoodIn wsX7_familyOf (wsV RX7 133 RX7 yX7_soundIn wsX7_soundIn) := goodIn_app (goodIn_of _ (by decide +kernel)) ggX7_familyOf_X7_soundIn
set_option maxRecDepth 20000 in
theorem ggX7_familyOf_X7_apart : GoodIn wsX7_familyOf wsX7_apart := goodIn_r _ [13] (by decide +kernel) (by decide +kernel)
set_option maxRecDepth 20000 in
theorem gX7_familyOf_X7_apart : GoodIn wsX7_familyOf (va_wsS RX7 136 yX7_apart wsX7_apart) := goodIn_app (goodIn_of _ (by decide +kernel)) ggX7_familyOf_X7_apart
theorem dX7_familyOf_0 : decode cX7_familyOf 0 = .ok (.iconst 1, 1) := by decide +kernel
theorem dX7_familyOf_1 : decode cX7_familyOf 1 = .ok (.iload_n 1, 1) := by decide +kernel
theorem dX7_familyOf_2 : decode cX7_familyOf 2 = .ok (.ishl, 1) := by decide +kernel
theorem dX7_familyOf_3 : decode cX7_familyOf 3 = .ok (.istore_n 2, 1) := by decide +kernel
theorem dX7_familyOf_4 : decode cX7_familyOf 4 = .ok (.iconst 0, 1) := by decide +kernel
theorem dX7_familyOf_5 : decode cX7_familyOf 5 = .ok (.istore_n 3, 1) := by decide +kernel
theorem dX7_familyOf_6 : decode cX7_familyOf 6 = .ok (.iload_n 3, 1) := by decide +kernel
theorem dX7_familyOf_7 : decode cX7_familyOf 7 = .ok (.iconst 5, 1) := by decide +kernel
theorem dX7_familyOf_8 : decode cX7_familyOf 8 = .ok (.if_icmp .ge 111, 3) := by decide +kernel
theorem dX7_familyOf_11 : decode cX7_familyOf 11 = .ok (.iconst 0, 1) := by decide +kernel
theorem dX7_familyOf_12 : decode cX7_familyOf 12 = .ok (.istore 4, 2) := by decide +kernel
theorem dX7_familyOf_14 : decode cX7_familyOf 14 = .ok (.iload 4, 2) := by decide +kernel
theorem dX7_familyOf_16 : decode cX7_familyOf 16 = .ok (.aload_n 0, 1) := by decide +kernel
theorem dX7_familyOf_17 : decode cX7_familyOf 17 = .ok (.getfield 71, 3) := by decide +kernel
theorem dX7_familyOf_20 : decode cX7_familyOf 20 = .ok (.if_icmp .ge 93, 3) := by decide +kernel
theorem dX7_familyOf_23 : decode cX7_familyOf 23 = .ok (.iconst 0, 1) := by decide +kernel
theorem dX7_familyOf_24 : decode cX7_familyOf 24 = .ok (.istore 5, 2) := by decide +kernel
theorem dX7_familyOf_26 : decode cX7_familyOf 26 = .ok (.iload 5, 2) := by decide +kernel
theorem dX7_familyOf_28 : decode cX7_familyOf 28 = .ok (.aload_n 0, 1) := by decide +kernel
theorem dX7_familyOf_29 : decode cX7_familyOf 29 = .ok (.getfield 71, 3) := by decide +kernel
theorem dX7_familyOf_32 : decode cX7_familyOf 32 = .ok (.if_icmp .ge 75, 3) := by decide +kernel
theorem dX7_familyOf_35 : decode cX7_familyOf 35 = .ok (.aload_n 0, 1) := by decide +kernel
theorem dX7_familyOf_36 : decode cX7_familyOf 36 = .ok (.iload 4, 2) := by decide +kernel
theorem dX7_familyOf_38 : decode cX7_familyOf 38 = .ok (.aload_n 0, 1) := by decide +kernel
theorem dX7_familyOf_39 : decode cX7_familyOf 39 = .ok (.getfield 28, 3) := by decide +kernel
theorem dX7_familyOf_42 : decode cX7_familyOf 42 = .ok (.iload 4, 2) := by decide +kernel
theorem dX7_familyOf_44 : decode cX7_familyOf 44 = .ok (.iaload, 1) := by decide +kernel
theorem dX7_familyOf_45 : decode cX7_familyOf 45 = .ok (.invokevirtual 133, 3) := by decide +kernel
theorem dX7_familyOf_48 : decode cX7_familyOf 48 = .ok (.aload_n 0, 1) := by decide +kernel
theorem dX7_familyOf_49 : decode cX7_familyOf 49 = .ok (.iload 5, 2) := by decide +kernel
theorem dX7_familyOf_51 : decode cX7_familyOf 51 = .ok (.aload_n 0, 1) := by decide +kernel
theorem dX7_familyOf_52 : decode cX7_familyOf 52 = .ok (.getfield 28, 3) := by decide +kernel
theorem dX7_familyOf_55 : decode cX7_familyOf 55 = .ok (.iload 5, 2) := by decide +kernel
theorem dX7_familyOf_57 : decode cX7_familyOf 57 = .ok (.iaload, 1) := by decide +kernel
theorem dX7_familyOf_58 : decode cX7_familyOf 58 = .ok (.invokevirtual 133, 3) := by decide +kernel
theorem dX7_familyOf_61 : decode cX7_familyOf 61 = .ok (.invokestatic 136, 3) := by decide +kernel
theorem dX7_familyOf_64 : decode cX7_familyOf 64 = .ok (.iconst 2, 1) := by decide +kernel
theorem dX7_familyOf_65 : decode cX7_familyOf 65 = .ok (.if_icmp .ne 7, 3) := by decide +kernel
theorem dX7_familyOf_68 : decode cX7_familyOf 68 = .ok (.iconst 1, 1) := by decide +kernel
theorem dX7_familyOf_69 : decode cX7_familyOf 69 = .ok (.goto 4, 3) := by decide +kernel
theorem dX7_familyOf_72 : decode cX7_familyOf 72 = .ok (.iconst 0, 1) := by decide +kernel
theorem dX7_familyOf_73 : decode cX7_familyOf 73 = .ok (.istore 6, 2) := by decide +kernel
theorem dX7_familyOf_75 : decode cX7_familyOf 75 = .ok (.iload_n 2, 1) := by decide +kernel
theorem dX7_familyOf_76 : decode cX7_familyOf 76 = .ok (.iload 6, 2) := by decide +kernel
theorem dX7_familyOf_78 : decode cX7_familyOf 78 = .ok (.ifCond .eq 20, 3) := by decide +kernel
theorem dX7_familyOf_81 : decode cX7_familyOf 81 = .ok (.iload_n 2, 1) := by decide +kernel
theorem dX7_familyOf_82 : decode cX7_familyOf 82 = .ok (.iload 4, 2) := by decide +kernel
theorem dX7_familyOf_84 : decode cX7_familyOf 84 = .ok (.ishr, 1) := by decide +kernel
theorem dX7_familyOf_85 : decode cX7_familyOf 85 = .ok (.iconst 1, 1) := by decide +kernel
theorem dX7_familyOf_86 : decode cX7_familyOf 86 = .ok (.iand, 1) := by decide +kernel
theorem dX7_familyOf_87 : decode cX7_familyOf 87 = .ok (.iconst 1, 1) := by decide +kernel
theorem dX7_familyOf_88 : decode cX7_familyOf 88 = .ok (.if_icmp .ne 10, 3) := by decide +kernel
theorem dX7_familyOf_91 : decode cX7_familyOf 91 = .ok (.iconst 1, 1) := by decide +kernel
theorem dX7_familyOf_92 : decode cX7_familyOf 92 = .ok (.iload 5, 2) := by decide +kernel
theorem dX7_familyOf_94 : decode cX7_familyOf 94 = .ok (.ishl, 1) := by decide +kernel
theorem dX7_familyOf_95 : decode cX7_familyOf 95 = .ok (.goto 4, 3) := by decide +kernel
theorem dX7_familyOf_98 : decode cX7_familyOf 98 = .ok (.iconst 0, 1) := by decide +kernel
theorem dX7_familyOf_99 : decode cX7_familyOf 99 = .ok (.ior, 1) := by decide +kernel
theorem dX7_familyOf_100 : decode cX7_familyOf 100 = .ok (.istore_n 2, 1) := by decide +kernel
theorem dX7_familyOf_101 : decode cX7_familyOf 101 = .ok (.iinc 5 1, 3) := by decide +kernel
theorem dX7_familyOf_104 : decode cX7_familyOf 104 = .ok (.goto (-78), 3) := by decide +kernel
theorem dX7_familyOf_107 : decode cX7_familyOf 107 = .ok (.iinc 4 1, 3) := by decide +kernel
theorem dX7_familyOf_110 : decode cX7_familyOf 110 = .ok (.goto (-96), 3) := by decide +kernel
theorem dX7_familyOf_113 : decode cX7_familyOf 113 = .ok (.iinc 3 1, 3) := by decide +kernel
theorem dX7_familyOf_116 : decode cX7_familyOf 116 = .ok (.goto (-110), 3) := by decide +kernel
theorem dX7_familyOf_119 : decode cX7_familyOf 119 = .ok (.iload_n 2, 1) := by decide +kernel
theorem dX7_familyOf_120 : decode cX7_familyOf 120 = .ok (.ireturn, 1) := by decide +kernel
set_option maxRecDepth 20000 in
theorem ggX7_family_X7_isBell : GoodIn wsX7_family wsX7_isBell := goodIn_r _ [5, 6, 22, 23, 24, 25, 26, 27, 28, 29, 30, 31, 32, 33, 34, 35, 36, 37, 38, 39, 40, 41, 42, 43, 44, 45, 46, 47, 48, 49] (by decide +kernel) (by decide +kernel)
set_option maxRecDepth 20000 in
theorem gX7_family_X7_isBell : GoodIn wsX7_family (wsV RX7 124 RX7 yX7_isBell wsX7_isBell) := goodIn_app (goodIn_of _ (by decide +kernel)) ggX7_family_X7_isBell
set_option maxRecDepth 20000 in
theorem ggX7_family_X7_familyOf : GoodIn wsX7_family wsX7_familyOf := goodIn_r _ [10, 6, 11, 12, 13, 14, 4, 15, 16, 17, 18, 19, 20, 21, 22, 23, 24, 25, 26, 27, 28, 29, 30, 31, 32, 33, 34, 35, 36, 37, 38, 39, 40, 41, 42, 43, 44, 45, 46, 47, 48, 49] (by decide +kernel) (by decide +kernel)
set_option maxRecDepth 20000 in
theorem gX7_family_X7_familyOf : GoodIn wsX7_family (wsV RX7 148 RX7 yX7_familyOf wsX7_familyOf) := goodIn_app (goodIn_of _ (by decide +kernel)) ggX7_family_X7_familyOf
theorem dX7_family_0 : decode cX7_family 0 = .ok (.aload_n 0, 1) := by decide +kernel
theorem dX7_family_1 : decode cX7_family 1 = .ok (.iload_n 1, 1) := by decide +kernel
theorem dX7_family_2 : decode cX7_family 2 = .ok (.invokevirtual 124, 3) := by decide +kernel
theorem dX7_family_5 : decode cX7_family 5 = .ok (.ifCond .eq 11, 3) := by decide +kernel
theorem dX7_family_8 : decode cX7_family 8 = .ok (.aload_n 0, 1) := by decide +kernel
theorem dX7_family_9 : decode cX7_family 9 = .ok (.iload_n 1, 1) := by decide +kernel
theorem dX7_family_10 : decode cX7_family 10 = .ok (.invokevirtual 148, 3) := by decide +kernel
theorem dX7_family_13 : decode cX7_family 13 = .ok (.goto 4, 3) := by decide +kernel
theorem dX7_family_16 : decode cX7_family 16 = .ok (.iconst (-1), 1) := by decide +kernel
theorem dX7_family_17 : decode cX7_family 17 = .ok (.ireturn, 1) := by decide +kernel
set_option maxRecDepth 20000 in
theorem ggX7_heardThen_X7_apart : GoodIn wsX7_heardThen wsX7_apart := goodIn_r _ [7] (by decide +kernel) (by decide +kernel)
set_option maxRecDepth 20000 in
theorem gX7_heardThen_X7_apart : GoodIn wsX7_heardThen (va_wsS RX7 136 yX7_apart wsX7_apart) := goodIn_app (goodIn_of _ (by decide +kernel)) ggX7_heardThen_X7_apart
theorem dX7_heardThen_0 : decode cX7_heardThen 0 = .ok (.iconst 0, 1) := by decide +kernel
theorem dX7_heardThen_1 : decode cX7_heardThen 1 = .ok (.istore_n 2, 1) := by decide +kernel
theorem dX7_heardThen_2 : decode cX7_heardThen 2 = .ok (.iconst 0, 1) := by decide +kernel
theorem dX7_heardThen_3 : decode cX7_heardThen 3 = .ok (.istore_n 3, 1) := by decide +kernel
theorem dX7_heardThen_4 : decode cX7_heardThen 4 = .ok (.iload_n 3, 1) := by decide +kernel
theorem dX7_heardThen_5 : decode cX7_heardThen 5 = .ok (.aload_n 0, 1) := by decide +kernel
theorem dX7_heardThen_6 : decode cX7_heardThen 6 = .ok (.getfield 71, 3) := by decide +kernel
theorem dX7_heardThen_9 : decode cX7_heardThen 9 = .ok (.if_icmp .ge 34, 3) := by decide +kernel
theorem dX7_heardThen_12 : decode cX7_heardThen 12 = .ok (.iload_n 2, 1) := by decide +kernel
theorem dX7_heardThen_13 : decode cX7_heardThen 13 = .ok (.aload_n 0, 1) := by decide +kernel
theorem dX7_heardThen_14 : decode cX7_heardThen 14 = .ok (.getfield 43, 3) := by decide +kernel
theorem dX7_heardThen_17 : decode cX7_heardThen 17 = .ok (.iload_n 3, 1) := by decide +kernel
theorem dX7_heardThen_18 : decode cX7_heardThen 18 = .ok (.iaload, 1) := by decide +kernel
theorem dX7_heardThen_19 : decode cX7_heardThen 19 = .ok (.iload_n 1, 1) := by decide +kernel
theorem dX7_heardThen_20 : decode cX7_heardThen 20 = .ok (.invokestatic 136, 3) := by decide +kernel
theorem dX7_heardThen_23 : decode cX7_heardThen 23 = .ok (.aload_n 0, 1) := by decide +kernel
theorem dX7_heardThen_24 : decode cX7_heardThen 24 = .ok (.getfield 104, 3) := by decide +kernel
theorem dX7_heardThen_27 : decode cX7_heardThen 27 = .ok (.if_icmp .gt 7, 3) := by decide +kernel
theorem dX7_heardThen_30 : decode cX7_heardThen 30 = .ok (.iconst 1, 1) := by decide +kernel
theorem dX7_heardThen_31 : decode cX7_heardThen 31 = .ok (.goto 4, 3) := by decide +kernel
theorem dX7_heardThen_34 : decode cX7_heardThen 34 = .ok (.iconst 0, 1) := by decide +kernel
theorem dX7_heardThen_35 : decode cX7_heardThen 35 = .ok (.iadd, 1) := by decide +kernel
theorem dX7_heardThen_36 : decode cX7_heardThen 36 = .ok (.istore_n 2, 1) := by decide +kernel
theorem dX7_heardThen_37 : decode cX7_heardThen 37 = .ok (.iinc 3 1, 3) := by decide +kernel
theorem dX7_heardThen_40 : decode cX7_heardThen 40 = .ok (.goto (-36), 3) := by decide +kernel
theorem dX7_heardThen_43 : decode cX7_heardThen 43 = .ok (.iload_n 2, 1) := by decide +kernel
theorem dX7_heardThen_44 : decode cX7_heardThen 44 = .ok (.ireturn, 1) := by decide +kernel
set_option maxRecDepth 20000 in
theorem ggX7_goGoings_X7_apart : GoodIn wsX7_goGoings wsX7_apart := goodIn_r _ [9] (by decide +kernel) (by decide +kernel)
set_option maxRecDepth 20000 in
theorem gX7_goGoings_X7_apart : GoodIn wsX7_goGoings (va_wsS RX7 136 yX7_apart wsX7_apart) := goodIn_app (goodIn_of _ (by decide +kernel)) ggX7_goGoings_X7_apart
theorem dX7_goGoings_0 : decode cX7_goGoings 0 = .ok (.aload_n 0, 1) := by decide +kernel
theorem dX7_goGoings_1 : decode cX7_goGoings 1 = .ok (.iconst 0, 1) := by decide +kernel
theorem dX7_goGoings_2 : decode cX7_goGoings 2 = .ok (.putfield 151, 3) := by decide +kernel
theorem dX7_goGoings_5 : decode cX7_goGoings 5 = .ok (.iconst 0, 1) := by decide +kernel
theorem dX7_goGoings_6 : decode cX7_goGoings 6 = .ok (.istore_n 3, 1) := by decide +kernel
theorem dX7_goGoings_7 : decode cX7_goGoings 7 = .ok (.iload_n 3, 1) := by decide +kernel
theorem dX7_goGoings_8 : decode cX7_goGoings 8 = .ok (.aload_n 0, 1) := by decide +kernel
theorem dX7_goGoings_9 : decode cX7_goGoings 9 = .ok (.getfield 71, 3) := by decide +kernel
theorem dX7_goGoings_12 : decode cX7_goGoings 12 = .ok (.if_icmp .ge 21, 3) := by decide +kernel
theorem dX7_goGoings_15 : decode cX7_goGoings 15 = .ok (.aload_n 0, 1) := by decide +kernel
theorem dX7_goGoings_16 : decode cX7_goGoings 16 = .ok (.getfield 43, 3) := by decide +kernel
theorem dX7_goGoings_19 : decode cX7_goGoings 19 = .ok (.iload_n 3, 1) := by decide +kernel
theorem dX7_goGoings_20 : decode cX7_goGoings 20 = .ok (.aload_n 0, 1) := by decide +kernel
theorem dX7_goGoings_21 : decode cX7_goGoings 21 = .ok (.getfield 25, 3) := by decide +kernel
theorem dX7_goGoings_24 : decode cX7_goGoings 24 = .ok (.iload_n 3, 1) := by decide +kernel
theorem dX7_goGoings_25 : decode cX7_goGoings 25 = .ok (.iaload, 1) := by decide +kernel
theorem dX7_goGoings_26 : decode cX7_goGoings 26 = .ok (.iastore, 1) := by decide +kernel
theorem dX7_goGoings_27 : decode cX7_goGoings 27 = .ok (.iinc 3 1, 3) := by decide +kernel
theorem dX7_goGoings_30 : decode cX7_goGoings 30 = .ok (.goto (-23), 3) := by decide +kernel
theorem dX7_goGoings_33 : decode cX7_goGoings 33 = .ok (.iconst 0, 1) := by decide +kernel
theorem dX7_goGoings_34 : decode cX7_goGoings 34 = .ok (.istore_n 3, 1) := by decide +kernel
theorem dX7_goGoings_35 : decode cX7_goGoings 35 = .ok (.iload_n 3, 1) := by decide +kernel
theorem dX7_goGoings_36 : decode cX7_goGoings 36 = .ok (.iload_n 2, 1) := by decide +kernel
theorem dX7_goGoings_37 : decode cX7_goGoings 37 = .ok (.if_icmp .ge 79, 3) := by decide +kernel
theorem dX7_goGoings_40 : decode cX7_goGoings 40 = .ok (.aload_n 0, 1) := by decide +kernel
theorem dX7_goGoings_41 : decode cX7_goGoings 41 = .ok (.getfield 16, 3) := by decide +kernel
theorem dX7_goGoings_44 : decode cX7_goGoings 44 = .ok (.iload_n 1, 1) := by decide +kernel
theorem dX7_goGoings_45 : decode cX7_goGoings 45 = .ok (.iconst 2, 1) := by decide +kernel
theorem dX7_goGoings_46 : decode cX7_goGoings 46 = .ok (.iload_n 3, 1) := by decide +kernel
theorem dX7_goGoings_47 : decode cX7_goGoings 47 = .ok (.imul, 1) := by decide +kernel
theorem dX7_goGoings_48 : decode cX7_goGoings 48 = .ok (.iadd, 1) := by decide +kernel
theorem dX7_goGoings_49 : decode cX7_goGoings 49 = .ok (.iaload, 1) := by decide +kernel
theorem dX7_goGoings_50 : decode cX7_goGoings 50 = .ok (.istore 4, 2) := by decide +kernel
theorem dX7_goGoings_52 : decode cX7_goGoings 52 = .ok (.aload_n 0, 1) := by decide +kernel
theorem dX7_goGoings_53 : decode cX7_goGoings 53 = .ok (.getfield 16, 3) := by decide +kernel
theorem dX7_goGoings_56 : decode cX7_goGoings 56 = .ok (.iload_n 1, 1) := by decide +kernel
theorem dX7_goGoings_57 : decode cX7_goGoings 57 = .ok (.iconst 2, 1) := by decide +kernel
theorem dX7_goGoings_58 : decode cX7_goGoings 58 = .ok (.iload_n 3, 1) := by decide +kernel
theorem dX7_goGoings_59 : decode cX7_goGoings 59 = .ok (.imul, 1) := by decide +kernel
theorem dX7_goGoings_60 : decode cX7_goGoings 60 = .ok (.iadd, 1) := by decide +kernel
theorem dX7_goGoings_61 : decode cX7_goGoings 61 = .ok (.iconst 1, 1) := by decide +kernel
theorem dX7_goGoings_62 : decode cX7_goGoings 62 = .ok (.iadd, 1) := by decide +kernel
theorem dX7_goGoings_63 : decode cX7_goGoings 63 = .ok (.iaload, 1) := by decide +kernel
theorem dX7_goGoings_64 : decode cX7_goGoings 64 = .ok (.istore 5, 2) := by decide +kernel
theorem dX7_goGoings_66 : decode cX7_goGoings 66 = .ok (.aload_n 0, 1) := by decide +kernel
theorem dX7_goGoings_67 : decode cX7_goGoings 67 = .ok (.getfield 43, 3) := by decide +kernel
theorem dX7_goGoings_70 : decode cX7_goGoings 70 = .ok (.iload 4, 2) := by decide +kernel
theorem dX7_goGoings_72 : decode cX7_goGoings 72 = .ok (.iaload, 1) := by decide +kernel
theorem dX7_goGoings_73 : decode cX7_goGoings 73 = .ok (.iload 5, 2) := by decide +kernel
theorem dX7_goGoings_75 : decode cX7_goGoings 75 = .ok (.if_icmp .ne 5, 3) := by decide +kernel
theorem dX7_goGoings_78 : decode cX7_goGoings 78 = .ok (.iload_n 3, 1) := by decide +kernel
theorem dX7_goGoings_79 : decode cX7_goGoings 79 = .ok (.ireturn, 1) := by decide +kernel
theorem dX7_goGoings_80 : decode cX7_goGoings 80 = .ok (.aload_n 0, 1) := by decide +kernel
theorem dX7_goGoings_81 : decode cX7_goGoings 81 = .ok (.dup, 1) := by decide +kernel
theorem dX7_goGoings_82 : decode cX7_goGoings 82 = .ok (.getfield 151, 3) := by decide +kernel
theorem dX7_goGoings_85 : decode cX7_goGoings 85 = .ok (.aload_n 0, 1) := by decide +kernel
theorem dX7_goGoings_86 : decode cX7_goGoings 86 = .ok (.getfield 43, 3) := by decide +kernel
theorem dX7_goGoings_89 : decode cX7_goGoings 89 = .ok (.iload 4, 2) := by decide +kernel
theorem dX7_goGoings_91 : decode cX7_goGoings 91 = .ok (.iaload, 1) := by decide +kernel
theorem dX7_goGoings_92 : decode cX7_goGoings 92 = .ok (.iload 5, 2) := by decide +kernel
theorem dX7_goGoings_94 : decode cX7_goGoings 94 = .ok (.invokestatic 136, 3) := by decide +kernel
theorem dX7_goGoings_97 : decode cX7_goGoings 97 = .ok (.iadd, 1) := by decide +kernel
theorem dX7_goGoings_98 : decode cX7_goGoings 98 = .ok (.putfield 151, 3) := by decide +kernel
theorem dX7_goGoings_101 : decode cX7_goGoings 101 = .ok (.aload_n 0, 1) := by decide +kernel
theorem dX7_goGoings_102 : decode cX7_goGoings 102 = .ok (.getfield 43, 3) := by decide +kernel
theorem dX7_goGoings_105 : decode cX7_goGoings 105 = .ok (.iload 4, 2) := by decide +kernel
theorem dX7_goGoings_107 : decode cX7_goGoings 107 = .ok (.iload 5, 2) := by decide +kernel
theorem dX7_goGoings_109 : decode cX7_goGoings 109 = .ok (.iastore, 1) := by decide +kernel
theorem dX7_goGoings_110 : decode cX7_goGoings 110 = .ok (.iinc 3 1, 3) := by decide +kernel
theorem dX7_goGoings_113 : decode cX7_goGoings 113 = .ok (.goto (-78), 3) := by decide +kernel
theorem dX7_goGoings_116 : decode cX7_goGoings 116 = .ok (.bipush (-9), 2) := by decide +kernel
theorem dX7_goGoings_118 : decode cX7_goGoings 118 = .ok (.ireturn, 1) := by decide +kernel
set_option maxRecDepth 20000 in
theorem ggX7_goings_X7_isSheet : GoodIn wsX7_goings wsX7_isSheet := goodIn_r _ [7, 8, 9, 6, 10] (by decide +kernel) (by decide +kernel)
set_option maxRecDepth 20000 in
theorem gX7_goings_X7_isSheet : GoodIn wsX7_goings (va_wsS RX7 77 yX7_isSheet wsX7_isSheet) := goodIn_app (goodIn_of _ (by decide +kernel)) ggX7_goings_X7_isSheet
set_option maxRecDepth 20000 in
theorem ggX7_goings_X7_isSort : GoodIn wsX7_goings wsX7_isSort := goodIn_r _ [13, 8, 9, 6, 10] (by decide +kernel) (by decide +kernel)
set_option maxRecDepth 20000 in
theorem gX7_goings_X7_isSort : GoodIn wsX7_goings (va_wsS RX7 81 yX7_isSort wsX7_isSort) := goodIn_app (goodIn_of _ (by decide +kernel)) ggX7_goings_X7_isSort
set_option maxRecDepth 20000 in
theorem ggX7_goings_X7_within : GoodIn wsX7_goings wsX7_within := goodIn_r _ [10] (by decide +kernel) (by decide +kernel)
set_option maxRecDepth 20000 in
theorem gX7_goings_X7_within : GoodIn wsX7_goings (va_wsS RX7 67 yX7_within wsX7_within) := goodIn_app (goodIn_of _ (by decide +kernel)) ggX7_goings_X7_within
set_option maxRecDepth 20000 in
theorem ggX7_goings_X7_against : GoodIn wsX7_goings wsX7_against := goodIn_r _ [17, 18, 19, 50, 51, 52, 53, 54, 55, 56, 57, 58, 59, 60, 61, 62, 63, 64, 65, 66, 67, 68, 69, 70, 71, 72, 73, 74, 75, 76, 77] (by decide +kernel) (by decide +kernel)
set_option maxRecDepth 20000 in
theorem gX7_goings_X7_against : GoodIn wsX7_goings (wsV RX7 84 RX7 yX7_against wsX7_against) := goodIn_app (goodIn_of _ (by decide +kernel)) ggX7_goings_X7_against
set_option maxRecDepth 20000 in
theorem ggX7_goings_X7_fails : GoodIn wsX7_goings wsX7_fails := goodIn_r _ [23, 1, 50, 51, 52, 53, 54, 55, 56, 57, 58, 59, 60, 61, 62, 63, 64, 65, 66, 67, 68, 69, 70, 71, 72, 73, 74, 75, 76, 77] (by decide +kernel) (by decide +kernel)
set_option maxRecDepth 20000 in
theorem gX7_goings_X7_fails : GoodIn wsX7_goings (wsV RX7 88 RX7 yX7_fails wsX7_fails) := goodIn_app (goodIn_of _ (by decide +kernel)) ggX7_goings_X7_fails
set_option maxRecDepth 20000 in
theorem ggX7_goings_X7_isBell : GoodIn wsX7_goings wsX7_isBell := goodIn_r _ [27, 2, 50, 51, 52, 53, 54, 55, 56, 57, 58, 59, 60, 61, 62, 63, 64, 65, 66, 67, 68, 69, 70, 71, 72, 73, 74, 75, 76, 77] (by decide +kernel) (by decide +kernel)
set_option maxRecDepth 20000 in
theorem gX7_goings_X7_isBell : GoodIn wsX7_goings (wsV RX7 124 RX7 yX7_isBell wsX7_isBell) := goodIn_app (goodIn_of _ (by decide +kernel)) ggX7_goings_X7_isBell
set_option maxRecDepth 20000 in
theorem ggX7_goings_X7_isDigit : GoodIn wsX7_goings wsX7_isDigit := goodIn_r _ [30, 8, 9, 6, 10] (by decide +kernel) (by decide +kernel)
set_option maxRecDepth 20000 in
theorem gX7_goings_X7_isDigit : GoodIn wsX7_goings (va_wsS RX7 130 yX7_isDigit wsX7_isDigit) := goodIn_app (goodIn_of _ (by decide +kernel)) ggX7_goings_X7_isDigit
set_option maxRecDepth 20000 in
theorem ggX7_goings_X7_goGoings : GoodIn wsX7_goings wsX7_goGoings := goodIn_r _ [34, 35, 2, 36, 37, 3, 38, 39, 6, 40, 50, 51, 52, 53, 54, 55, 56, 57, 58, 59, 60, 61, 62, 63, 64, 65, 66, 67, 68, 69, 70, 71, 72, 73, 74, 75, 76, 77] (by decide +kernel) (by decide +kernel)
set_option maxRecDepth 20000 in
theorem gX7_goings_X7_goGoings : GoodIn wsX7_goings (wsV RX7 154 RX7 yX7_goGoings wsX7_goGoings) := goodIn_app (goodIn_of _ (by decide +kernel)) ggX7_goings_X7_goGoings
set_option maxRecDepth 20000 in
theorem ggX7_goings_X7_tellGoings : GoodIn wsX7_goings wsX7_tellGoings := goodIn_r _ [44, 36, 35, 24, 25, 26, 6, 27, 2, 45, 46, 47, 48, 49, 38, 39, 40, 50, 51, 52, 53, 54, 55, 56, 57, 58, 59, 60, 61, 62, 63, 64, 65, 66, 67, 68, 69, 70, 71, 72, 73, 74, 75, 76, 77] (by decide +kernel) (by decide +kernel)
set_option maxRecDepth 20000 in
theorem gX7_goings_X7_tellGoings : GoodIn wsX7_goings (wsV RX7 157 RX7 yX7_tellGoings wsX7_tellGoings) := goodIn_app (goodIn_of _ (by decide +kernel)) ggX7_goings_X7_tellGoings
theorem dX7_goings_0 : decode cX7_goings 0 = .ok (.aload_n 0, 1) := by decide +kernel
