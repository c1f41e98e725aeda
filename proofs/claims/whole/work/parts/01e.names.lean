theorem dX6_sound_28 : decode cX6_sound 28 = .ok (.iload_n 2, 1) := by decide +kernel
theorem dX6_sound_29 : decode cX6_sound 29 = .ok (.iconst 4, 1) := by decide +kernel
theorem dX6_sound_30 : decode cX6_sound 30 = .ok (.invokestatic 53, 3) := by decide +kernel
theorem dX6_sound_33 : decode cX6_sound 33 = .ok (.ifCond .ne 6, 3) := by decide +kernel
theorem dX6_sound_36 : decode cX6_sound 36 = .ok (.bipush (-2), 2) := by decide +kernel
theorem dX6_sound_38 : decode cX6_sound 38 = .ok (.ireturn, 1) := by decide +kernel
theorem dX6_sound_39 : decode cX6_sound 39 = .ok (.aload_n 0, 1) := by decide +kernel
theorem dX6_sound_40 : decode cX6_sound 40 = .ok (.getfield 20, 3) := by decide +kernel
theorem dX6_sound_43 : decode cX6_sound 43 = .ok (.iload_n 1, 1) := by decide +kernel
theorem dX6_sound_44 : decode cX6_sound 44 = .ok (.iload_n 2, 1) := by decide +kernel
theorem dX6_sound_45 : decode cX6_sound 45 = .ok (.invokevirtual 112, 3) := by decide +kernel
theorem dX6_sound_48 : decode cX6_sound 48 = .ok (.ireturn, 1) := by decide +kernel
set_option maxRecDepth 20000 in
theorem ggX6_heard_X6_isBelow : GoodIn wsX6_heard wsX6_isBelow := goodIn_r _ [6] (by decide +kernel) (by decide +kernel)
set_option maxRecDepth 20000 in
theorem gX6_heard_X6_isBelow : GoodIn wsX6_heard (va_wsS RX6 53 yX6_isBelow wsX6_isBelow) := goodIn_app (goodIn_of _ (by decide +kernel)) ggX6_heard_X6_isBelow
set_option maxRecDepth 20000 in
theorem ggX6_heard_X1_isNone : GoodIn wsX6_heard wsX1_isNone := goodIn_r _ [11, 12, 36, 37, 38, 39, 40, 41, 42] (by decide +kernel) (by decide +kernel)
set_option maxRecDepth 20000 in
theorem gX6_heard_X1_isNone : GoodIn wsX6_heard (wsV RX6 102 RX1 yX1_isNone wsX1_isNone) := goodIn_app (goodIn_of _ (by decide +kernel)) ggX6_heard_X1_isNone
set_option maxRecDepth 20000 in
theorem ggX6_heard_X1_heardFrom : GoodIn wsX6_heard wsX1_heardFrom := goodIn_r _ [16, 12, 17, 18, 19, 10, 20, 21, 22, 23, 24, 25, 26, 27, 28, 36, 37, 38, 39, 40, 41, 42] (by decide +kernel) (by decide +kernel)
set_option maxRecDepth 20000 in
theorem gX6_heard_X1_heardFrom : GoodIn wsX6_heard (wsV RX6 116 RX1 yX1_heardFrom wsX1_heardFrom) := goodIn_app (goodIn_of _ (by decide +kernel)) ggX6_heard_X1_heardFrom
theorem dX6_heard_0 : decode cX6_heard 0 = .ok (.iload_n 1, 1) := by decide +kernel
theorem dX6_heard_1 : decode cX6_heard 1 = .ok (.bipush 10, 2) := by decide +kernel
theorem dX6_heard_3 : decode cX6_heard 3 = .ok (.invokestatic 53, 3) := by decide +kernel
theorem dX6_heard_6 : decode cX6_heard 6 = .ok (.ifCond .ne 6, 3) := by decide +kernel
theorem dX6_heard_9 : decode cX6_heard 9 = .ok (.bipush (-2), 2) := by decide +kernel
theorem dX6_heard_11 : decode cX6_heard 11 = .ok (.ireturn, 1) := by decide +kernel
theorem dX6_heard_12 : decode cX6_heard 12 = .ok (.aload_n 0, 1) := by decide +kernel
theorem dX6_heard_13 : decode cX6_heard 13 = .ok (.getfield 20, 3) := by decide +kernel
theorem dX6_heard_16 : decode cX6_heard 16 = .ok (.invokevirtual 102, 3) := by decide +kernel
theorem dX6_heard_19 : decode cX6_heard 19 = .ok (.ifCond .eq 6, 3) := by decide +kernel
theorem dX6_heard_22 : decode cX6_heard 22 = .ok (.bipush (-3), 2) := by decide +kernel
theorem dX6_heard_24 : decode cX6_heard 24 = .ok (.ireturn, 1) := by decide +kernel
theorem dX6_heard_25 : decode cX6_heard 25 = .ok (.aload_n 0, 1) := by decide +kernel
theorem dX6_heard_26 : decode cX6_heard 26 = .ok (.getfield 20, 3) := by decide +kernel
theorem dX6_heard_29 : decode cX6_heard 29 = .ok (.aload_n 0, 1) := by decide +kernel
theorem dX6_heard_30 : decode cX6_heard 30 = .ok (.getfield 20, 3) := by decide +kernel
theorem dX6_heard_33 : decode cX6_heard 33 = .ok (.getfield 92, 3) := by decide +kernel
theorem dX6_heard_36 : decode cX6_heard 36 = .ok (.iload_n 1, 1) := by decide +kernel
theorem dX6_heard_37 : decode cX6_heard 37 = .ok (.invokevirtual 116, 3) := by decide +kernel
theorem dX6_heard_40 : decode cX6_heard 40 = .ok (.ireturn, 1) := by decide +kernel
set_option maxRecDepth 20000 in
theorem ggX6_taken_X6_isBelow : GoodIn wsX6_taken wsX6_isBelow := goodIn_r _ [10] (by decide +kernel) (by decide +kernel)
set_option maxRecDepth 20000 in
theorem gX6_taken_X6_isBelow : GoodIn wsX6_taken (va_wsS RX6 53 yX6_isBelow wsX6_isBelow) := goodIn_app (goodIn_of _ (by decide +kernel)) ggX6_taken_X6_isBelow
set_option maxRecDepth 20000 in
theorem ggX6_taken_X1_isNone : GoodIn wsX6_taken wsX1_isNone := goodIn_r _ [15, 16, 53, 54, 55, 56, 57, 58, 59] (by decide +kernel) (by decide +kernel)
set_option maxRecDepth 20000 in
theorem gX6_taken_X1_isNone : GoodIn wsX6_taken (wsV RX6 102 RX1 yX1_isNone wsX1_isNone) := goodIn_app (goodIn_of _ (by decide +kernel)) ggX6_taken_X1_isNone
set_option maxRecDepth 20000 in
theorem ggX6_taken_X1_soundNow : GoodIn wsX6_taken wsX1_soundNow := goodIn_r _ [20, 21, 22, 23, 24, 14, 25, 26, 27, 28, 29, 9, 30, 31, 32, 5, 33, 53, 54, 55, 56, 57, 58, 59] (by decide +kernel) (by decide +kernel)
set_option maxRecDepth 20000 in
theorem gX6_taken_X1_soundNow : GoodIn wsX6_taken (wsV RX6 109 RX1 yX1_soundNow wsX1_soundNow) := goodIn_app (goodIn_of _ (by decide +kernel)) ggX6_taken_X1_soundNow
set_option maxRecDepth 20000 in
theorem ggX6_taken_X1_isHeard : GoodIn wsX6_taken wsX1_isHeard := goodIn_r _ [37, 38, 39, 40, 41, 14, 42, 43, 4, 5, 6, 44, 45, 32, 33, 53, 54, 55, 56, 57, 58, 59] (by decide +kernel) (by decide +kernel)
set_option maxRecDepth 20000 in
theorem gX6_taken_X1_isHeard : GoodIn wsX6_taken (wsV RX6 125 RX1 yX1_isHeard wsX1_isHeard) := goodIn_app (goodIn_of _ (by decide +kernel)) ggX6_taken_X1_isHeard
theorem dX6_taken_0 : decode cX6_taken 0 = .ok (.iload_n 1, 1) := by decide +kernel
theorem dX6_taken_1 : decode cX6_taken 1 = .ok (.bipush 10, 2) := by decide +kernel
theorem dX6_taken_3 : decode cX6_taken 3 = .ok (.invokestatic 53, 3) := by decide +kernel
theorem dX6_taken_6 : decode cX6_taken 6 = .ok (.ifCond .eq 12, 3) := by decide +kernel
theorem dX6_taken_9 : decode cX6_taken 9 = .ok (.iload_n 2, 1) := by decide +kernel
theorem dX6_taken_10 : decode cX6_taken 10 = .ok (.bipush 20, 2) := by decide +kernel
theorem dX6_taken_12 : decode cX6_taken 12 = .ok (.invokestatic 53, 3) := by decide +kernel
theorem dX6_taken_15 : decode cX6_taken 15 = .ok (.ifCond .ne 6, 3) := by decide +kernel
theorem dX6_taken_18 : decode cX6_taken 18 = .ok (.bipush (-2), 2) := by decide +kernel
theorem dX6_taken_20 : decode cX6_taken 20 = .ok (.ireturn, 1) := by decide +kernel
theorem dX6_taken_21 : decode cX6_taken 21 = .ok (.aload_n 0, 1) := by decide +kernel
theorem dX6_taken_22 : decode cX6_taken 22 = .ok (.getfield 20, 3) := by decide +kernel
theorem dX6_taken_25 : decode cX6_taken 25 = .ok (.invokevirtual 102, 3) := by decide +kernel
theorem dX6_taken_28 : decode cX6_taken 28 = .ok (.ifCond .eq 6, 3) := by decide +kernel
theorem dX6_taken_31 : decode cX6_taken 31 = .ok (.bipush (-3), 2) := by decide +kernel
theorem dX6_taken_33 : decode cX6_taken 33 = .ok (.ireturn, 1) := by decide +kernel
theorem dX6_taken_34 : decode cX6_taken 34 = .ok (.bipush (-9), 2) := by decide +kernel
theorem dX6_taken_36 : decode cX6_taken 36 = .ok (.istore_n 3, 1) := by decide +kernel
theorem dX6_taken_37 : decode cX6_taken 37 = .ok (.bipush 20, 2) := by decide +kernel
theorem dX6_taken_39 : decode cX6_taken 39 = .ok (.istore 4, 2) := by decide +kernel
theorem dX6_taken_41 : decode cX6_taken 41 = .ok (.iconst 0, 1) := by decide +kernel
theorem dX6_taken_42 : decode cX6_taken 42 = .ok (.istore 5, 2) := by decide +kernel
theorem dX6_taken_44 : decode cX6_taken 44 = .ok (.iload 5, 2) := by decide +kernel
theorem dX6_taken_46 : decode cX6_taken 46 = .ok (.aload_n 0, 1) := by decide +kernel
theorem dX6_taken_47 : decode cX6_taken 47 = .ok (.getfield 20, 3) := by decide +kernel
theorem dX6_taken_50 : decode cX6_taken 50 = .ok (.getfield 80, 3) := by decide +kernel
theorem dX6_taken_53 : decode cX6_taken 53 = .ok (.if_icmp .ge 52, 3) := by decide +kernel
theorem dX6_taken_56 : decode cX6_taken 56 = .ok (.aload_n 0, 1) := by decide +kernel
theorem dX6_taken_57 : decode cX6_taken 57 = .ok (.getfield 20, 3) := by decide +kernel
theorem dX6_taken_60 : decode cX6_taken 60 = .ok (.iload 5, 2) := by decide +kernel
theorem dX6_taken_62 : decode cX6_taken 62 = .ok (.invokevirtual 109, 3) := by decide +kernel
theorem dX6_taken_65 : decode cX6_taken 65 = .ok (.iload_n 2, 1) := by decide +kernel
theorem dX6_taken_66 : decode cX6_taken 66 = .ok (.isub, 1) := by decide +kernel
theorem dX6_taken_67 : decode cX6_taken 67 = .ok (.invokestatic 120, 3) := by decide +kernel
theorem dX6_taken_70 : decode cX6_taken 70 = .ok (.istore 6, 2) := by decide +kernel
theorem dX6_taken_72 : decode cX6_taken 72 = .ok (.aload_n 0, 1) := by decide +kernel
theorem dX6_taken_73 : decode cX6_taken 73 = .ok (.getfield 20, 3) := by decide +kernel
theorem dX6_taken_76 : decode cX6_taken 76 = .ok (.iload 5, 2) := by decide +kernel
theorem dX6_taken_78 : decode cX6_taken 78 = .ok (.iload_n 1, 1) := by decide +kernel
theorem dX6_taken_79 : decode cX6_taken 79 = .ok (.invokevirtual 125, 3) := by decide +kernel
theorem dX6_taken_82 : decode cX6_taken 82 = .ok (.ifCond .eq 17, 3) := by decide +kernel
theorem dX6_taken_85 : decode cX6_taken 85 = .ok (.iload 6, 2) := by decide +kernel
theorem dX6_taken_87 : decode cX6_taken 87 = .ok (.iload 4, 2) := by decide +kernel
theorem dX6_taken_89 : decode cX6_taken 89 = .ok (.if_icmp .ge 10, 3) := by decide +kernel
theorem dX6_taken_92 : decode cX6_taken 92 = .ok (.iload 5, 2) := by decide +kernel
theorem dX6_taken_94 : decode cX6_taken 94 = .ok (.istore_n 3, 1) := by decide +kernel
theorem dX6_taken_95 : decode cX6_taken 95 = .ok (.iload 6, 2) := by decide +kernel
theorem dX6_taken_97 : decode cX6_taken 97 = .ok (.istore 4, 2) := by decide +kernel
theorem dX6_taken_99 : decode cX6_taken 99 = .ok (.iinc 5 1, 3) := by decide +kernel
theorem dX6_taken_102 : decode cX6_taken 102 = .ok (.goto (-58), 3) := by decide +kernel
theorem dX6_taken_105 : decode cX6_taken 105 = .ok (.iload_n 3, 1) := by decide +kernel
theorem dX6_taken_106 : decode cX6_taken 106 = .ok (.ireturn, 1) := by decide +kernel
set_option maxRecDepth 20000 in
theorem ggX6_meant_X6_isBelow : GoodIn wsX6_meant wsX6_isBelow := goodIn_r _ [6] (by decide +kernel) (by decide +kernel)
set_option maxRecDepth 20000 in
theorem gX6_meant_X6_isBelow : GoodIn wsX6_meant (va_wsS RX6 53 yX6_isBelow wsX6_isBelow) := goodIn_app (goodIn_of _ (by decide +kernel)) ggX6_meant_X6_isBelow
set_option maxRecDepth 20000 in
theorem ggX6_meant_X1_isNone : GoodIn wsX6_meant wsX1_isNone := goodIn_r _ [11, 12, 51, 52, 53, 54, 55, 56, 57] (by decide +kernel) (by decide +kernel)
set_option maxRecDepth 20000 in
theorem gX6_meant_X1_isNone : GoodIn wsX6_meant (wsV RX6 102 RX1 yX1_isNone wsX1_isNone) := goodIn_app (goodIn_of _ (by decide +kernel)) ggX6_meant_X1_isNone
set_option maxRecDepth 20000 in
theorem ggX6_meant_X1_isHeard : GoodIn wsX6_meant wsX1_isHeard := goodIn_r _ [16, 17, 18, 19, 20, 10, 21, 22, 23, 24, 25, 26, 27, 28, 29, 51, 52, 53, 54, 55, 56, 57] (by decide +kernel) (by decide +kernel)
set_option maxRecDepth 20000 in
theorem gX6_meant_X1_isHeard : GoodIn wsX6_meant (wsV RX6 125 RX1 yX1_isHeard wsX1_isHeard) := goodIn_app (goodIn_of _ (by decide +kernel)) ggX6_meant_X1_isHeard
set_option maxRecDepth 20000 in
theorem ggX6_meant_X1_moodsSounding : GoodIn wsX6_meant wsX1_moodsSounding := goodIn_r _ [33, 34, 35, 36, 10, 37, 38, 39, 40, 41, 5, 42, 43, 28, 24, 29, 51, 52, 53, 54, 55, 56, 57] (by decide +kernel) (by decide +kernel)
set_option maxRecDepth 20000 in
theorem gX6_meant_X1_moodsSounding : GoodIn wsX6_meant (wsV RX6 128 RX1 yX1_moodsSounding wsX1_moodsSounding) := goodIn_app (goodIn_of _ (by decide +kernel)) ggX6_meant_X1_moodsSounding
theorem dX6_meant_0 : decode cX6_meant 0 = .ok (.iload_n 1, 1) := by decide +kernel
theorem dX6_meant_1 : decode cX6_meant 1 = .ok (.bipush 10, 2) := by decide +kernel
theorem dX6_meant_3 : decode cX6_meant 3 = .ok (.invokestatic 53, 3) := by decide +kernel
theorem dX6_meant_6 : decode cX6_meant 6 = .ok (.ifCond .eq 12, 3) := by decide +kernel
theorem dX6_meant_9 : decode cX6_meant 9 = .ok (.iload_n 2, 1) := by decide +kernel
theorem dX6_meant_10 : decode cX6_meant 10 = .ok (.bipush 20, 2) := by decide +kernel
theorem dX6_meant_12 : decode cX6_meant 12 = .ok (.invokestatic 53, 3) := by decide +kernel
theorem dX6_meant_15 : decode cX6_meant 15 = .ok (.ifCond .ne 6, 3) := by decide +kernel
theorem dX6_meant_18 : decode cX6_meant 18 = .ok (.bipush (-2), 2) := by decide +kernel
theorem dX6_meant_20 : decode cX6_meant 20 = .ok (.ireturn, 1) := by decide +kernel
theorem dX6_meant_21 : decode cX6_meant 21 = .ok (.aload_n 0, 1) := by decide +kernel
theorem dX6_meant_22 : decode cX6_meant 22 = .ok (.getfield 20, 3) := by decide +kernel
theorem dX6_meant_25 : decode cX6_meant 25 = .ok (.invokevirtual 102, 3) := by decide +kernel
theorem dX6_meant_28 : decode cX6_meant 28 = .ok (.ifCond .eq 6, 3) := by decide +kernel
theorem dX6_meant_31 : decode cX6_meant 31 = .ok (.bipush (-3), 2) := by decide +kernel
theorem dX6_meant_33 : decode cX6_meant 33 = .ok (.ireturn, 1) := by decide +kernel
theorem dX6_meant_34 : decode cX6_meant 34 = .ok (.iconst 0, 1) := by decide +kernel
theorem dX6_meant_35 : decode cX6_meant 35 = .ok (.istore_n 3, 1) := by decide +kernel
theorem dX6_meant_36 : decode cX6_meant 36 = .ok (.iconst 0, 1) := by decide +kernel
theorem dX6_meant_37 : decode cX6_meant 37 = .ok (.istore 4, 2) := by decide +kernel
theorem dX6_meant_39 : decode cX6_meant 39 = .ok (.iload 4, 2) := by decide +kernel
theorem dX6_meant_41 : decode cX6_meant 41 = .ok (.aload_n 0, 1) := by decide +kernel
theorem dX6_meant_42 : decode cX6_meant 42 = .ok (.getfield 20, 3) := by decide +kernel
theorem dX6_meant_45 : decode cX6_meant 45 = .ok (.getfield 80, 3) := by decide +kernel
theorem dX6_meant_48 : decode cX6_meant 48 = .ok (.if_icmp .ge 42, 3) := by decide +kernel
theorem dX6_meant_51 : decode cX6_meant 51 = .ok (.aload_n 0, 1) := by decide +kernel
theorem dX6_meant_52 : decode cX6_meant 52 = .ok (.getfield 20, 3) := by decide +kernel
theorem dX6_meant_55 : decode cX6_meant 55 = .ok (.iload 4, 2) := by decide +kernel
theorem dX6_meant_57 : decode cX6_meant 57 = .ok (.iload_n 1, 1) := by decide +kernel
theorem dX6_meant_58 : decode cX6_meant 58 = .ok (.invokevirtual 125, 3) := by decide +kernel
theorem dX6_meant_61 : decode cX6_meant 61 = .ok (.ifCond .eq 23, 3) := by decide +kernel
theorem dX6_meant_64 : decode cX6_meant 64 = .ok (.aload_n 0, 1) := by decide +kernel
theorem dX6_meant_65 : decode cX6_meant 65 = .ok (.getfield 20, 3) := by decide +kernel
theorem dX6_meant_68 : decode cX6_meant 68 = .ok (.iload 4, 2) := by decide +kernel
theorem dX6_meant_70 : decode cX6_meant 70 = .ok (.iload_n 2, 1) := by decide +kernel
theorem dX6_meant_71 : decode cX6_meant 71 = .ok (.invokevirtual 128, 3) := by decide +kernel
theorem dX6_meant_74 : decode cX6_meant 74 = .ok (.ifCond .le 10, 3) := by decide +kernel
theorem dX6_meant_77 : decode cX6_meant 77 = .ok (.iload_n 3, 1) := by decide +kernel
theorem dX6_meant_78 : decode cX6_meant 78 = .ok (.iconst 1, 1) := by decide +kernel
theorem dX6_meant_79 : decode cX6_meant 79 = .ok (.iload 4, 2) := by decide +kernel
theorem dX6_meant_81 : decode cX6_meant 81 = .ok (.ishl, 1) := by decide +kernel
theorem dX6_meant_82 : decode cX6_meant 82 = .ok (.ior, 1) := by decide +kernel
theorem dX6_meant_83 : decode cX6_meant 83 = .ok (.istore_n 3, 1) := by decide +kernel
theorem dX6_meant_84 : decode cX6_meant 84 = .ok (.iinc 4 1, 3) := by decide +kernel
theorem dX6_meant_87 : decode cX6_meant 87 = .ok (.goto (-48), 3) := by decide +kernel
theorem dX6_meant_90 : decode cX6_meant 90 = .ok (.iload_n 3, 1) := by decide +kernel
theorem dX6_meant_91 : decode cX6_meant 91 = .ok (.ireturn, 1) := by decide +kernel
set_option maxRecDepth 20000 in
theorem ggX6_family_X1_hasBell : GoodIn wsX6_family wsX1_hasBell := goodIn_r _ [9, 10, 11, 12, 13, 52, 53, 54, 55, 56, 57, 58] (by decide +kernel) (by decide +kernel)
set_option maxRecDepth 20000 in
theorem gX6_family_X1_hasBell : GoodIn wsX6_family (wsV RX6 81 RX1 yX1_hasBell wsX1_hasBell) := goodIn_app (goodIn_of _ (by decide +kernel)) ggX6_family_X1_hasBell
set_option maxRecDepth 20000 in
theorem ggX6_family_X1_soundNow : GoodIn wsX6_family wsX1_soundNow := goodIn_r _ [17, 18, 19, 20, 21, 8, 22, 23, 24, 25, 26, 12, 27, 28, 29, 30, 31, 52, 53, 54, 55, 56, 57, 58] (by decide +kernel) (by decide +kernel)
set_option maxRecDepth 20000 in
theorem gX6_family_X1_soundNow : GoodIn wsX6_family (wsV RX6 109 RX1 yX1_soundNow wsX1_soundNow) := goodIn_app (goodIn_of _ (by decide +kernel)) ggX6_family_X1_soundNow
set_option maxRecDepth 20000 in
theorem ggX6_family_X0_familyOf : GoodIn wsX6_family wsX0_familyOf := goodIn_r _ [36, 37, 38, 39, 35, 40, 41, 42, 43, 30, 44, 59, 60, 61] (by decide +kernel) (by decide +kernel)
set_option maxRecDepth 20000 in
theorem gX6_family_X0_familyOf : GoodIn wsX6_family (wsV RX6 134 RX0 yX0_familyOf wsX0_familyOf) := goodIn_app (goodIn_of _ (by decide +kernel)) ggX6_family_X0_familyOf
theorem dX6_family_0 : decode cX6_family 0 = .ok (.aload_n 0, 1) := by decide +kernel
theorem dX6_family_1 : decode cX6_family 1 = .ok (.getfield 20, 3) := by decide +kernel
theorem dX6_family_4 : decode cX6_family 4 = .ok (.iload_n 1, 1) := by decide +kernel
theorem dX6_family_5 : decode cX6_family 5 = .ok (.invokevirtual 81, 3) := by decide +kernel
theorem dX6_family_8 : decode cX6_family 8 = .ok (.ifCond .ne 5, 3) := by decide +kernel
theorem dX6_family_11 : decode cX6_family 11 = .ok (.iconst (-1), 1) := by decide +kernel
theorem dX6_family_12 : decode cX6_family 12 = .ok (.ireturn, 1) := by decide +kernel
theorem dX6_family_13 : decode cX6_family 13 = .ok (.iconst 0, 1) := by decide +kernel
theorem dX6_family_14 : decode cX6_family 14 = .ok (.istore_n 2, 1) := by decide +kernel
theorem dX6_family_15 : decode cX6_family 15 = .ok (.iload_n 2, 1) := by decide +kernel
theorem dX6_family_16 : decode cX6_family 16 = .ok (.aload_n 0, 1) := by decide +kernel
theorem dX6_family_17 : decode cX6_family 17 = .ok (.getfield 20, 3) := by decide +kernel
theorem dX6_family_20 : decode cX6_family 20 = .ok (.getfield 80, 3) := by decide +kernel
theorem dX6_family_23 : decode cX6_family 23 = .ok (.if_icmp .ge 26, 3) := by decide +kernel
theorem dX6_family_26 : decode cX6_family 26 = .ok (.aload_n 0, 1) := by decide +kernel
theorem dX6_family_27 : decode cX6_family 27 = .ok (.getfield 34, 3) := by decide +kernel
theorem dX6_family_30 : decode cX6_family 30 = .ok (.getfield 131, 3) := by decide +kernel
theorem dX6_family_33 : decode cX6_family 33 = .ok (.iload_n 2, 1) := by decide +kernel
theorem dX6_family_34 : decode cX6_family 34 = .ok (.aload_n 0, 1) := by decide +kernel
theorem dX6_family_35 : decode cX6_family 35 = .ok (.getfield 20, 3) := by decide +kernel
theorem dX6_family_38 : decode cX6_family 38 = .ok (.iload_n 2, 1) := by decide +kernel
theorem dX6_family_39 : decode cX6_family 39 = .ok (.invokevirtual 109, 3) := by decide +kernel
theorem dX6_family_42 : decode cX6_family 42 = .ok (.iastore, 1) := by decide +kernel
theorem dX6_family_43 : decode cX6_family 43 = .ok (.iinc 2 1, 3) := by decide +kernel
theorem dX6_family_46 : decode cX6_family 46 = .ok (.goto (-31), 3) := by decide +kernel
theorem dX6_family_49 : decode cX6_family 49 = .ok (.aload_n 0, 1) := by decide +kernel
theorem dX6_family_50 : decode cX6_family 50 = .ok (.getfield 34, 3) := by decide +kernel
theorem dX6_family_53 : decode cX6_family 53 = .ok (.iload_n 1, 1) := by decide +kernel
theorem dX6_family_54 : decode cX6_family 54 = .ok (.aload_n 0, 1) := by decide +kernel
theorem dX6_family_55 : decode cX6_family 55 = .ok (.getfield 20, 3) := by decide +kernel
theorem dX6_family_58 : decode cX6_family 58 = .ok (.getfield 80, 3) := by decide +kernel
theorem dX6_family_61 : decode cX6_family 61 = .ok (.invokevirtual 134, 3) := by decide +kernel
theorem dX6_family_64 : decode cX6_family 64 = .ok (.ireturn, 1) := by decide +kernel
set_option maxRecDepth 20000 in
theorem ggX6_goings_X6_isBelow : GoodIn wsX6_goings wsX6_isBelow := goodIn_r _ [8] (by decide +kernel) (by decide +kernel)
set_option maxRecDepth 20000 in
theorem gX6_goings_X6_isBelow : GoodIn wsX6_goings (va_wsS RX6 53 yX6_isBelow wsX6_isBelow) := goodIn_app (goodIn_of _ (by decide +kernel)) ggX6_goings_X6_isBelow
set_option maxRecDepth 20000 in
theorem ggX6_goings_X6_isOfGoings : GoodIn wsX6_goings wsX6_isOfGoings := goodIn_r _ [11, 5, 6, 7, 8] (by decide +kernel) (by decide +kernel)
set_option maxRecDepth 20000 in
theorem gX6_goings_X6_isOfGoings : GoodIn wsX6_goings (va_wsS RX6 137 yX6_isOfGoings wsX6_isOfGoings) := goodIn_app (goodIn_of _ (by decide +kernel)) ggX6_goings_X6_isOfGoings
set_option maxRecDepth 20000 in
theorem ggX6_goings_X3_faultAs : GoodIn wsX6_goings wsX3_faultAs := goodIn_r _ [16, 17, 18, 19, 20, 15, 21, 98, 99, 100] (by decide +kernel) (by decide +kernel)
set_option maxRecDepth 20000 in
theorem gX6_goings_X3_faultAs : GoodIn wsX6_goings (wsV RX6 57 RX3 yX3_faultAs wsX3_faultAs) := goodIn_app (goodIn_of _ (by decide +kernel)) ggX6_goings_X3_faultAs
set_option maxRecDepth 20000 in
theorem ggX6_goings_X6_failBy : GoodIn wsX6_goings wsX6_failBy := goodIn_r _ [25, 1, 91, 92, 93, 94, 95, 96, 97] (by decide +kernel) (by decide +kernel)
set_option maxRecDepth 20000 in
theorem gX6_goings_X6_failBy : GoodIn wsX6_goings (wsV RX6 61 RX6 yX6_failBy wsX6_failBy) := goodIn_app (goodIn_of _ (by decide +kernel)) ggX6_goings_X6_failBy
set_option maxRecDepth 20000 in
theorem ggX6_goings_X3_hasCells : GoodIn wsX6_goings wsX3_hasCells := goodIn_r _ [29, 30, 98, 99, 100] (by decide +kernel) (by decide +kernel)
set_option maxRecDepth 20000 in
theorem gX6_goings_X3_hasCells : GoodIn wsX6_goings (wsV RX6 64 RX3 yX3_hasCells wsX3_hasCells) := goodIn_app (goodIn_of _ (by decide +kernel)) ggX6_goings_X3_hasCells
set_option maxRecDepth 20000 in
theorem ggX6_goings_X1_isNone : GoodIn wsX6_goings wsX1_isNone := goodIn_r _ [35, 36, 101, 102, 103, 104, 105, 106, 107] (by decide +kernel) (by decide +kernel)
set_option maxRecDepth 20000 in
theorem gX6_goings_X1_isNone : GoodIn wsX6_goings (wsV RX6 102 RX1 yX1_isNone wsX1_isNone) := goodIn_app (goodIn_of _ (by decide +kernel)) ggX6_goings_X1_isNone
set_option maxRecDepth 20000 in
theorem ggX6_goings_X5_goAll : GoodIn wsX6_goings wsX5_goAll := goodIn_r _ [41, 42, 43, 44, 45, 46, 47, 48, 49, 50, 51, 52, 53, 54, 55, 56, 57, 34, 58, 36, 6, 7, 8, 101, 102, 103, 104, 105, 106, 107, 108, 109, 110, 98, 99, 100] (by decide +kernel) (by decide +kernel)
set_option maxRecDepth 20000 in
theorem gX6_goings_X5_goAll : GoodIn wsX6_goings (wsV RX6 140 RX5 yX5_goAll wsX5_goAll) := goodIn_app (goodIn_of _ (by decide +kernel)) ggX6_goings_X5_goAll
set_option maxRecDepth 20000 in
theorem ggX6_goings_X6_ofWalk : GoodIn wsX6_goings wsX6_ofWalk := goodIn_r _ [62, 4, 63, 3, 64, 65, 66, 67, 68, 34, 69, 36, 70, 71, 72, 73, 74, 52, 53, 54, 75, 76, 77, 78, 79, 80, 81, 82, 83, 84, 85, 86, 87, 88, 7, 89, 90, 56, 57, 58, 6, 8, 91, 92, 93, 94, 95, 96, 97, 108, 109, 110, 101, 102, 103, 104, 105, 106, 107] (by decide +kernel) (by decide +kernel)
set_option maxRecDepth 20000 in
theorem gX6_goings_X6_ofWalk : GoodIn wsX6_goings (wsV RX6 144 RX6 yX6_ofWalk wsX6_ofWalk) := goodIn_app (goodIn_of _ (by decide +kernel)) ggX6_goings_X6_ofWalk
theorem dX6_goings_0 : decode cX6_goings 0 = .ok (.aload_n 0, 1) := by decide +kernel
theorem dX6_goings_1 : decode cX6_goings 1 = .ok (.iconst 0, 1) := by decide +kernel
theorem dX6_goings_2 : decode cX6_goings 2 = .ok (.putfield 49, 3) := by decide +kernel
theorem dX6_goings_5 : decode cX6_goings 5 = .ok (.iload_n 1, 1) := by decide +kernel
theorem dX6_goings_6 : decode cX6_goings 6 = .ok (.iconst 4, 1) := by decide +kernel
theorem dX6_goings_7 : decode cX6_goings 7 = .ok (.invokestatic 53, 3) := by decide +kernel
theorem dX6_goings_10 : decode cX6_goings 10 = .ok (.ifCond .ne 5, 3) := by decide +kernel
theorem dX6_goings_13 : decode cX6_goings 13 = .ok (.iconst (-1), 1) := by decide +kernel
theorem dX6_goings_14 : decode cX6_goings 14 = .ok (.ireturn, 1) := by decide +kernel
theorem dX6_goings_15 : decode cX6_goings 15 = .ok (.iload_n 2, 1) := by decide +kernel
theorem dX6_goings_16 : decode cX6_goings 16 = .ok (.iconst 3, 1) := by decide +kernel
theorem dX6_goings_17 : decode cX6_goings 17 = .ok (.invokestatic 53, 3) := by decide +kernel
theorem dX6_goings_20 : decode cX6_goings 20 = .ok (.ifCond .eq 21, 3) := by decide +kernel
theorem dX6_goings_23 : decode cX6_goings 23 = .ok (.iload 4, 2) := by decide +kernel
theorem dX6_goings_25 : decode cX6_goings 25 = .ok (.bipush 21, 2) := by decide +kernel
theorem dX6_goings_27 : decode cX6_goings 27 = .ok (.invokestatic 53, 3) := by decide +kernel
theorem dX6_goings_30 : decode cX6_goings 30 = .ok (.ifCond .eq 11, 3) := by decide +kernel
theorem dX6_goings_33 : decode cX6_goings 33 = .ok (.iload 5, 2) := by decide +kernel
theorem dX6_goings_35 : decode cX6_goings 35 = .ok (.invokestatic 137, 3) := by decide +kernel
theorem dX6_goings_38 : decode cX6_goings 38 = .ok (.ifCond .ne 6, 3) := by decide +kernel
theorem dX6_goings_41 : decode cX6_goings 41 = .ok (.bipush (-2), 2) := by decide +kernel
theorem dX6_goings_43 : decode cX6_goings 43 = .ok (.ireturn, 1) := by decide +kernel
theorem dX6_goings_44 : decode cX6_goings 44 = .ok (.aload_n 0, 1) := by decide +kernel
theorem dX6_goings_45 : decode cX6_goings 45 = .ok (.getfield 13, 3) := by decide +kernel
theorem dX6_goings_48 : decode cX6_goings 48 = .ok (.iload_n 1, 1) := by decide +kernel
theorem dX6_goings_49 : decode cX6_goings 49 = .ok (.aaload, 1) := by decide +kernel
theorem dX6_goings_50 : decode cX6_goings 50 = .ok (.astore 6, 2) := by decide +kernel
theorem dX6_goings_52 : decode cX6_goings 52 = .ok (.aload 6, 2) := by decide +kernel
theorem dX6_goings_54 : decode cX6_goings 54 = .ok (.iload_n 2, 1) := by decide +kernel
theorem dX6_goings_55 : decode cX6_goings 55 = .ok (.invokevirtual 57, 3) := by decide +kernel
theorem dX6_goings_58 : decode cX6_goings 58 = .ok (.istore 7, 2) := by decide +kernel
theorem dX6_goings_60 : decode cX6_goings 60 = .ok (.iload 7, 2) := by decide +kernel
theorem dX6_goings_62 : decode cX6_goings 62 = .ok (.ifCond .eq 10, 3) := by decide +kernel
theorem dX6_goings_65 : decode cX6_goings 65 = .ok (.aload_n 0, 1) := by decide +kernel
theorem dX6_goings_66 : decode cX6_goings 66 = .ok (.iload 7, 2) := by decide +kernel
theorem dX6_goings_68 : decode cX6_goings 68 = .ok (.invokevirtual 61, 3) := by decide +kernel
theorem dX6_goings_71 : decode cX6_goings 71 = .ok (.ireturn, 1) := by decide +kernel
theorem dX6_goings_72 : decode cX6_goings 72 = .ok (.aload 6, 2) := by decide +kernel
theorem dX6_goings_74 : decode cX6_goings 74 = .ok (.iload_n 3, 1) := by decide +kernel
theorem dX6_goings_75 : decode cX6_goings 75 = .ok (.iconst 2, 1) := by decide +kernel
theorem dX6_goings_76 : decode cX6_goings 76 = .ok (.iload 4, 2) := by decide +kernel
theorem dX6_goings_78 : decode cX6_goings 78 = .ok (.imul, 1) := by decide +kernel
theorem dX6_goings_79 : decode cX6_goings 79 = .ok (.invokevirtual 64, 3) := by decide +kernel
theorem dX6_goings_82 : decode cX6_goings 82 = .ok (.ifCond .ne 9, 3) := by decide +kernel
theorem dX6_goings_85 : decode cX6_goings 85 = .ok (.aload_n 0, 1) := by decide +kernel
theorem dX6_goings_86 : decode cX6_goings 86 = .ok (.iconst 3, 1) := by decide +kernel
theorem dX6_goings_87 : decode cX6_goings 87 = .ok (.invokevirtual 61, 3) := by decide +kernel
theorem dX6_goings_90 : decode cX6_goings 90 = .ok (.ireturn, 1) := by decide +kernel
theorem dX6_goings_91 : decode cX6_goings 91 = .ok (.aload_n 0, 1) := by decide +kernel
theorem dX6_goings_92 : decode cX6_goings 92 = .ok (.getfield 20, 3) := by decide +kernel
theorem dX6_goings_95 : decode cX6_goings 95 = .ok (.invokevirtual 102, 3) := by decide +kernel
theorem dX6_goings_98 : decode cX6_goings 98 = .ok (.ifCond .eq 6, 3) := by decide +kernel
theorem dX6_goings_101 : decode cX6_goings 101 = .ok (.bipush (-3), 2) := by decide +kernel
theorem dX6_goings_103 : decode cX6_goings 103 = .ok (.ireturn, 1) := by decide +kernel
theorem dX6_goings_104 : decode cX6_goings 104 = .ok (.aload_n 0, 1) := by decide +kernel
theorem dX6_goings_105 : decode cX6_goings 105 = .ok (.getfield 41, 3) := by decide +kernel
theorem dX6_goings_108 : decode cX6_goings 108 = .ok (.aload_n 0, 1) := by decide +kernel
theorem dX6_goings_109 : decode cX6_goings 109 = .ok (.getfield 20, 3) := by decide +kernel
theorem dX6_goings_112 : decode cX6_goings 112 = .ok (.aload 6, 2) := by decide +kernel
theorem dX6_goings_114 : decode cX6_goings 114 = .ok (.iload_n 3, 1) := by decide +kernel
theorem dX6_goings_115 : decode cX6_goings 115 = .ok (.iload 4, 2) := by decide +kernel
theorem dX6_goings_117 : decode cX6_goings 117 = .ok (.invokevirtual 140, 3) := by decide +kernel
theorem dX6_goings_120 : decode cX6_goings 120 = .ok (.istore 8, 2) := by decide +kernel
theorem dX6_goings_122 : decode cX6_goings 122 = .ok (.iload 8, 2) := by decide +kernel
theorem dX6_goings_124 : decode cX6_goings 124 = .ok (.ifCond .eq 6, 3) := by decide +kernel
theorem dX6_goings_127 : decode cX6_goings 127 = .ok (.iload 8, 2) := by decide +kernel
theorem dX6_goings_129 : decode cX6_goings 129 = .ok (.ireturn, 1) := by decide +kernel
theorem dX6_goings_130 : decode cX6_goings 130 = .ok (.aload_n 0, 1) := by decide +kernel
theorem dX6_goings_131 : decode cX6_goings 131 = .ok (.iload 5, 2) := by decide +kernel
theorem dX6_goings_133 : decode cX6_goings 133 = .ok (.invokevirtual 144, 3) := by decide +kernel
theorem dX6_goings_136 : decode cX6_goings 136 = .ok (.ireturn, 1) := by decide +kernel
set_option maxRecDepth 20000 in
theorem ggX6_post_X1_isNone : GoodIn wsX6_post wsX1_isNone := goodIn_r _ [7, 8, 39, 40, 41, 42, 43, 44, 45] (by decide +kernel) (by decide +kernel)
set_option maxRecDepth 20000 in
theorem gX6_post_X1_isNone : GoodIn wsX6_post (wsV RX6 102 RX1 yX1_isNone wsX1_isNone) := goodIn_app (goodIn_of _ (by decide +kernel)) ggX6_post_X1_isNone
set_option maxRecDepth 20000 in
theorem ggX6_post_X1_hasAll : GoodIn wsX6_post wsX1_hasAll := goodIn_r _ [12, 8, 13, 14, 15, 39, 40, 41, 42, 43, 44, 45] (by decide +kernel) (by decide +kernel)
set_option maxRecDepth 20000 in
theorem gX6_post_X1_hasAll : GoodIn wsX6_post (wsV RX6 147 RX1 yX1_hasAll wsX1_hasAll) := goodIn_app (goodIn_of _ (by decide +kernel)) ggX6_post_X1_hasAll
set_option maxRecDepth 20000 in
theorem ggX6_post_X1_heardFrom : GoodIn wsX6_post wsX1_heardFrom := goodIn_r _ [19, 8, 20, 21, 22, 6, 23, 24, 25, 26, 27, 28, 29, 30, 31, 39, 40, 41, 42, 43, 44, 45] (by decide +kernel) (by decide +kernel)
set_option maxRecDepth 20000 in
theorem gX6_post_X1_heardFrom : GoodIn wsX6_post (wsV RX6 116 RX1 yX1_heardFrom wsX1_heardFrom) := goodIn_app (goodIn_of _ (by decide +kernel)) ggX6_post_X1_heardFrom
theorem dX6_post_0 : decode cX6_post 0 = .ok (.aload_n 0, 1) := by decide +kernel
theorem dX6_post_1 : decode cX6_post 1 = .ok (.getfield 20, 3) := by decide +kernel
theorem dX6_post_4 : decode cX6_post 4 = .ok (.invokevirtual 102, 3) := by decide +kernel
theorem dX6_post_7 : decode cX6_post 7 = .ok (.ifCond .eq 6, 3) := by decide +kernel
theorem dX6_post_10 : decode cX6_post 10 = .ok (.bipush (-3), 2) := by decide +kernel
theorem dX6_post_12 : decode cX6_post 12 = .ok (.ireturn, 1) := by decide +kernel
theorem dX6_post_13 : decode cX6_post 13 = .ok (.aload_n 0, 1) := by decide +kernel
theorem dX6_post_14 : decode cX6_post 14 = .ok (.getfield 20, 3) := by decide +kernel
theorem dX6_post_17 : decode cX6_post 17 = .ok (.iload_n 1, 1) := by decide +kernel
theorem dX6_post_18 : decode cX6_post 18 = .ok (.invokevirtual 147, 3) := by decide +kernel
theorem dX6_post_21 : decode cX6_post 21 = .ok (.ifCond .ne 6, 3) := by decide +kernel
theorem dX6_post_24 : decode cX6_post 24 = .ok (.bipush (-2), 2) := by decide +kernel
theorem dX6_post_26 : decode cX6_post 26 = .ok (.ireturn, 1) := by decide +kernel
theorem dX6_post_27 : decode cX6_post 27 = .ok (.iconst 0, 1) := by decide +kernel
theorem dX6_post_28 : decode cX6_post 28 = .ok (.istore_n 2, 1) := by decide +kernel
theorem dX6_post_29 : decode cX6_post 29 = .ok (.iload_n 2, 1) := by decide +kernel
theorem dX6_post_30 : decode cX6_post 30 = .ok (.bipush 10, 2) := by decide +kernel
theorem dX6_post_32 : decode cX6_post 32 = .ok (.if_icmp .ge 33, 3) := by decide +kernel
theorem dX6_post_35 : decode cX6_post 35 = .ok (.iload_n 1, 1) := by decide +kernel
theorem dX6_post_36 : decode cX6_post 36 = .ok (.aload_n 0, 1) := by decide +kernel
theorem dX6_post_37 : decode cX6_post 37 = .ok (.getfield 20, 3) := by decide +kernel
theorem dX6_post_40 : decode cX6_post 40 = .ok (.aload_n 0, 1) := by decide +kernel
theorem dX6_post_41 : decode cX6_post 41 = .ok (.getfield 20, 3) := by decide +kernel
theorem dX6_post_44 : decode cX6_post 44 = .ok (.getfield 92, 3) := by decide +kernel
theorem dX6_post_47 : decode cX6_post 47 = .ok (.iload_n 2, 1) := by decide +kernel
theorem dX6_post_48 : decode cX6_post 48 = .ok (.invokevirtual 116, 3) := by decide +kernel
theorem dX6_post_51 : decode cX6_post 51 = .ok (.iconst (-1), 1) := by decide +kernel
theorem dX6_post_52 : decode cX6_post 52 = .ok (.ixor, 1) := by decide +kernel
theorem dX6_post_53 : decode cX6_post 53 = .ok (.iand, 1) := by decide +kernel
theorem dX6_post_54 : decode cX6_post 54 = .ok (.ifCond .ne 5, 3) := by decide +kernel
theorem dX6_post_57 : decode cX6_post 57 = .ok (.iload_n 2, 1) := by decide +kernel
theorem dX6_post_58 : decode cX6_post 58 = .ok (.ireturn, 1) := by decide +kernel
theorem dX6_post_59 : decode cX6_post 59 = .ok (.iinc 2 1, 3) := by decide +kernel
theorem dX6_post_62 : decode cX6_post 62 = .ok (.goto (-33), 3) := by decide +kernel
theorem dX6_post_65 : decode cX6_post 65 = .ok (.bipush (-9), 2) := by decide +kernel
theorem dX6_post_67 : decode cX6_post 67 = .ok (.ireturn, 1) := by decide +kernel
set_option maxRecDepth 20000 in
theorem ggX6_call_X1_isNone : GoodIn wsX6_call wsX1_isNone := goodIn_r _ [6, 7, 40, 41, 42, 43, 44, 45, 46] (by decide +kernel) (by decide +kernel)
set_option maxRecDepth 20000 in
theorem gX6_call_X1_isNone : GoodIn wsX6_call (wsV RX6 102 RX1 yX1_isNone wsX1_isNone) := goodIn_app (goodIn_of _ (by decide +kernel)) ggX6_call_X1_isNone
set_option maxRecDepth 20000 in
theorem ggX6_call_X1_hasAll : GoodIn wsX6_call wsX1_hasAll := goodIn_r _ [11, 7, 12, 13, 14, 40, 41, 42, 43, 44, 45, 46] (by decide +kernel) (by decide +kernel)
set_option maxRecDepth 20000 in
theorem gX6_call_X1_hasAll : GoodIn wsX6_call (wsV RX6 147 RX1 yX1_hasAll wsX1_hasAll) := goodIn_app (goodIn_of _ (by decide +kernel)) ggX6_call_X1_hasAll
set_option maxRecDepth 20000 in
theorem ggX6_call_X6_isBelow : GoodIn wsX6_call wsX6_isBelow := goodIn_r _ [14] (by decide +kernel) (by decide +kernel)
set_option maxRecDepth 20000 in
theorem gX6_call_X6_isBelow : GoodIn wsX6_call (va_wsS RX6 53 yX6_isBelow wsX6_isBelow) := goodIn_app (goodIn_of _ (by decide +kernel)) ggX6_call_X6_isBelow
set_option maxRecDepth 20000 in
theorem ggX6_call_X1_stepsToHear : GoodIn wsX6_call wsX1_stepsToHear := goodIn_r _ [19, 7, 20, 21, 22, 23, 5, 24, 25, 26, 27, 28, 29, 30, 31, 32, 40, 41, 42, 43, 44, 45, 46] (by decide +kernel) (by decide +kernel)
set_option maxRecDepth 20000 in
theorem gX6_call_X1_stepsToHear : GoodIn wsX6_call (wsV RX6 150 RX1 yX1_stepsToHear wsX1_stepsToHear) := goodIn_app (goodIn_of _ (by decide +kernel)) ggX6_call_X1_stepsToHear
theorem dX6_call_0 : decode cX6_call 0 = .ok (.aload_n 0, 1) := by decide +kernel
theorem dX6_call_1 : decode cX6_call 1 = .ok (.getfield 20, 3) := by decide +kernel
theorem dX6_call_4 : decode cX6_call 4 = .ok (.invokevirtual 102, 3) := by decide +kernel
theorem dX6_call_7 : decode cX6_call 7 = .ok (.ifCond .eq 6, 3) := by decide +kernel
theorem dX6_call_10 : decode cX6_call 10 = .ok (.bipush (-3), 2) := by decide +kernel
theorem dX6_call_12 : decode cX6_call 12 = .ok (.ireturn, 1) := by decide +kernel
theorem dX6_call_13 : decode cX6_call 13 = .ok (.aload_n 0, 1) := by decide +kernel
theorem dX6_call_14 : decode cX6_call 14 = .ok (.getfield 20, 3) := by decide +kernel
theorem dX6_call_17 : decode cX6_call 17 = .ok (.iload_n 1, 1) := by decide +kernel
theorem dX6_call_18 : decode cX6_call 18 = .ok (.invokevirtual 147, 3) := by decide +kernel
theorem dX6_call_21 : decode cX6_call 21 = .ok (.ifCond .eq 11, 3) := by decide +kernel
theorem dX6_call_24 : decode cX6_call 24 = .ok (.iload_n 2, 1) := by decide +kernel
theorem dX6_call_25 : decode cX6_call 25 = .ok (.iconst 2, 1) := by decide +kernel
theorem dX6_call_26 : decode cX6_call 26 = .ok (.invokestatic 53, 3) := by decide +kernel
theorem dX6_call_29 : decode cX6_call 29 = .ok (.ifCond .ne 6, 3) := by decide +kernel
theorem dX6_call_32 : decode cX6_call 32 = .ok (.bipush (-2), 2) := by decide +kernel
theorem dX6_call_34 : decode cX6_call 34 = .ok (.ireturn, 1) := by decide +kernel
theorem dX6_call_35 : decode cX6_call 35 = .ok (.iconst 0, 1) := by decide +kernel
theorem dX6_call_36 : decode cX6_call 36 = .ok (.istore_n 3, 1) := by decide +kernel
theorem dX6_call_37 : decode cX6_call 37 = .ok (.iconst 1, 1) := by decide +kernel
theorem dX6_call_38 : decode cX6_call 38 = .ok (.istore 4, 2) := by decide +kernel
theorem dX6_call_40 : decode cX6_call 40 = .ok (.iload 4, 2) := by decide +kernel
theorem dX6_call_42 : decode cX6_call 42 = .ok (.bipush 10, 2) := by decide +kernel
theorem dX6_call_44 : decode cX6_call 44 = .ok (.if_icmp .ge 34, 3) := by decide +kernel
theorem dX6_call_47 : decode cX6_call 47 = .ok (.aload_n 0, 1) := by decide +kernel
theorem dX6_call_48 : decode cX6_call 48 = .ok (.getfield 20, 3) := by decide +kernel
theorem dX6_call_51 : decode cX6_call 51 = .ok (.iload_n 1, 1) := by decide +kernel
theorem dX6_call_52 : decode cX6_call 52 = .ok (.iload 4, 2) := by decide +kernel
theorem dX6_call_54 : decode cX6_call 54 = .ok (.invokevirtual 150, 3) := by decide +kernel
theorem dX6_call_57 : decode cX6_call 57 = .ok (.aload_n 0, 1) := by decide +kernel
theorem dX6_call_58 : decode cX6_call 58 = .ok (.getfield 20, 3) := by decide +kernel
theorem dX6_call_61 : decode cX6_call 61 = .ok (.iload_n 1, 1) := by decide +kernel
theorem dX6_call_62 : decode cX6_call 62 = .ok (.iload_n 3, 1) := by decide +kernel
theorem dX6_call_63 : decode cX6_call 63 = .ok (.invokevirtual 150, 3) := by decide +kernel
theorem dX6_call_66 : decode cX6_call 66 = .ok (.if_icmp .ge 6, 3) := by decide +kernel
theorem dX6_call_69 : decode cX6_call 69 = .ok (.iload 4, 2) := by decide +kernel
theorem dX6_call_71 : decode cX6_call 71 = .ok (.istore_n 3, 1) := by decide +kernel
theorem dX6_call_72 : decode cX6_call 72 = .ok (.iinc 4 1, 3) := by decide +kernel
theorem dX6_call_75 : decode cX6_call 75 = .ok (.goto (-35), 3) := by decide +kernel
theorem dX6_call_78 : decode cX6_call 78 = .ok (.iload_n 2, 1) := by decide +kernel
theorem dX6_call_79 : decode cX6_call 79 = .ok (.ifCond .ne 7, 3) := by decide +kernel
theorem dX6_call_82 : decode cX6_call 82 = .ok (.iload_n 3, 1) := by decide +kernel
theorem dX6_call_83 : decode cX6_call 83 = .ok (.goto 12, 3) := by decide +kernel
theorem dX6_call_86 : decode cX6_call 86 = .ok (.aload_n 0, 1) := by decide +kernel
theorem dX6_call_87 : decode cX6_call 87 = .ok (.getfield 20, 3) := by decide +kernel
theorem dX6_call_90 : decode cX6_call 90 = .ok (.iload_n 1, 1) := by decide +kernel
theorem dX6_call_91 : decode cX6_call 91 = .ok (.iload_n 3, 1) := by decide +kernel
theorem dX6_call_92 : decode cX6_call 92 = .ok (.invokevirtual 150, 3) := by decide +kernel
theorem dX6_call_95 : decode cX6_call 95 = .ok (.ireturn, 1) := by decide +kernel
set_option maxRecDepth 20000 in
theorem ggX6_cast_X1_hasBell : GoodIn wsX6_cast wsX1_hasBell := goodIn_r _ [9, 10, 11, 12, 13, 32, 33, 34, 35, 36, 37, 38] (by decide +kernel) (by decide +kernel)
set_option maxRecDepth 20000 in
theorem gX6_cast_X1_hasBell : GoodIn wsX6_cast (wsV RX6 81 RX1 yX1_hasBell wsX1_hasBell) := goodIn_app (goodIn_of _ (by decide +kernel)) ggX6_cast_X1_hasBell
set_option maxRecDepth 20000 in
theorem ggX6_cast_X1_soundSet : GoodIn wsX6_cast wsX1_soundSet := goodIn_r _ [17, 18, 19, 12, 20, 21, 22, 23, 24, 32, 33, 34, 35, 36, 37, 38] (by decide +kernel) (by decide +kernel)
set_option maxRecDepth 20000 in
theorem gX6_cast_X1_soundSet : GoodIn wsX6_cast (wsV RX6 153 RX1 yX1_soundSet wsX1_soundSet) := goodIn_app (goodIn_of _ (by decide +kernel)) ggX6_cast_X1_soundSet
theorem dX6_cast_0 : decode cX6_cast 0 = .ok (.aload_n 0, 1) := by decide +kernel
theorem dX6_cast_1 : decode cX6_cast 1 = .ok (.getfield 20, 3) := by decide +kernel
theorem dX6_cast_4 : decode cX6_cast 4 = .ok (.iload_n 1, 1) := by decide +kernel
theorem dX6_cast_5 : decode cX6_cast 5 = .ok (.invokevirtual 81, 3) := by decide +kernel
theorem dX6_cast_8 : decode cX6_cast 8 = .ok (.ifCond .ne 5, 3) := by decide +kernel
theorem dX6_cast_11 : decode cX6_cast 11 = .ok (.iconst (-1), 1) := by decide +kernel
theorem dX6_cast_12 : decode cX6_cast 12 = .ok (.ireturn, 1) := by decide +kernel
theorem dX6_cast_13 : decode cX6_cast 13 = .ok (.iconst 0, 1) := by decide +kernel
theorem dX6_cast_14 : decode cX6_cast 14 = .ok (.istore_n 2, 1) := by decide +kernel
theorem dX6_cast_15 : decode cX6_cast 15 = .ok (.iconst 0, 1) := by decide +kernel
theorem dX6_cast_16 : decode cX6_cast 16 = .ok (.istore_n 3, 1) := by decide +kernel
theorem dX6_cast_17 : decode cX6_cast 17 = .ok (.iload_n 3, 1) := by decide +kernel
theorem dX6_cast_18 : decode cX6_cast 18 = .ok (.aload_n 0, 1) := by decide +kernel
theorem dX6_cast_19 : decode cX6_cast 19 = .ok (.getfield 20, 3) := by decide +kernel
theorem dX6_cast_22 : decode cX6_cast 22 = .ok (.getfield 80, 3) := by decide +kernel
theorem dX6_cast_25 : decode cX6_cast 25 = .ok (.if_icmp .ge 42, 3) := by decide +kernel
theorem dX6_cast_28 : decode cX6_cast 28 = .ok (.iload_n 3, 1) := by decide +kernel
theorem dX6_cast_29 : decode cX6_cast 29 = .ok (.iload_n 1, 1) := by decide +kernel
theorem dX6_cast_30 : decode cX6_cast 30 = .ok (.if_icmp .eq 31, 3) := by decide +kernel
theorem dX6_cast_33 : decode cX6_cast 33 = .ok (.iload_n 2, 1) := by decide +kernel
theorem dX6_cast_34 : decode cX6_cast 34 = .ok (.aload_n 0, 1) := by decide +kernel
theorem dX6_cast_35 : decode cX6_cast 35 = .ok (.getfield 20, 3) := by decide +kernel
theorem dX6_cast_38 : decode cX6_cast 38 = .ok (.aload_n 0, 1) := by decide +kernel
theorem dX6_cast_39 : decode cX6_cast 39 = .ok (.getfield 20, 3) := by decide +kernel
theorem dX6_cast_42 : decode cX6_cast 42 = .ok (.getfield 85, 3) := by decide +kernel
theorem dX6_cast_45 : decode cX6_cast 45 = .ok (.iload_n 3, 1) := by decide +kernel
theorem dX6_cast_46 : decode cX6_cast 46 = .ok (.iaload, 1) := by decide +kernel
theorem dX6_cast_47 : decode cX6_cast 47 = .ok (.aload_n 0, 1) := by decide +kernel
theorem dX6_cast_48 : decode cX6_cast 48 = .ok (.getfield 20, 3) := by decide +kernel
theorem dX6_cast_51 : decode cX6_cast 51 = .ok (.getfield 89, 3) := by decide +kernel
theorem dX6_cast_54 : decode cX6_cast 54 = .ok (.iload_n 3, 1) := by decide +kernel
theorem dX6_cast_55 : decode cX6_cast 55 = .ok (.iaload, 1) := by decide +kernel
theorem dX6_cast_56 : decode cX6_cast 56 = .ok (.invokevirtual 153, 3) := by decide +kernel
theorem dX6_cast_59 : decode cX6_cast 59 = .ok (.ior, 1) := by decide +kernel
theorem dX6_cast_60 : decode cX6_cast 60 = .ok (.istore_n 2, 1) := by decide +kernel
theorem dX6_cast_61 : decode cX6_cast 61 = .ok (.iinc 3 1, 3) := by decide +kernel
theorem dX6_cast_64 : decode cX6_cast 64 = .ok (.goto (-47), 3) := by decide +kernel
theorem dX6_cast_67 : decode cX6_cast 67 = .ok (.iconst 0, 1) := by decide +kernel
theorem dX6_cast_68 : decode cX6_cast 68 = .ok (.istore_n 3, 1) := by decide +kernel
theorem dX6_cast_69 : decode cX6_cast 69 = .ok (.iload_n 3, 1) := by decide +kernel
theorem dX6_cast_70 : decode cX6_cast 70 = .ok (.bipush 10, 2) := by decide +kernel
theorem dX6_cast_72 : decode cX6_cast 72 = .ok (.if_icmp .ge 33, 3) := by decide +kernel
theorem dX6_cast_75 : decode cX6_cast 75 = .ok (.aload_n 0, 1) := by decide +kernel
theorem dX6_cast_76 : decode cX6_cast 76 = .ok (.getfield 20, 3) := by decide +kernel
theorem dX6_cast_79 : decode cX6_cast 79 = .ok (.aload_n 0, 1) := by decide +kernel
theorem dX6_cast_80 : decode cX6_cast 80 = .ok (.getfield 20, 3) := by decide +kernel
theorem dX6_cast_83 : decode cX6_cast 83 = .ok (.getfield 85, 3) := by decide +kernel
theorem dX6_cast_86 : decode cX6_cast 86 = .ok (.iload_n 1, 1) := by decide +kernel
theorem dX6_cast_87 : decode cX6_cast 87 = .ok (.iaload, 1) := by decide +kernel
theorem dX6_cast_88 : decode cX6_cast 88 = .ok (.iload_n 3, 1) := by decide +kernel
theorem dX6_cast_89 : decode cX6_cast 89 = .ok (.invokevirtual 153, 3) := by decide +kernel
theorem dX6_cast_92 : decode cX6_cast 92 = .ok (.iload_n 2, 1) := by decide +kernel
theorem dX6_cast_93 : decode cX6_cast 93 = .ok (.iand, 1) := by decide +kernel
theorem dX6_cast_94 : decode cX6_cast 94 = .ok (.ifCond .ne 5, 3) := by decide +kernel
theorem dX6_cast_97 : decode cX6_cast 97 = .ok (.iload_n 3, 1) := by decide +kernel
theorem dX6_cast_98 : decode cX6_cast 98 = .ok (.ireturn, 1) := by decide +kernel
theorem dX6_cast_99 : decode cX6_cast 99 = .ok (.iinc 3 1, 3) := by decide +kernel
theorem dX6_cast_102 : decode cX6_cast 102 = .ok (.goto (-33), 3) := by decide +kernel
theorem dX6_cast_105 : decode cX6_cast 105 = .ok (.bipush (-9), 2) := by decide +kernel
theorem dX6_cast_107 : decode cX6_cast 107 = .ok (.ireturn, 1) := by decide +kernel
set_option maxRecDepth 20000 in
theorem ggX6_choir_X1_isNone : GoodIn wsX6_choir wsX1_isNone := goodIn_r _ [10, 11, 64, 65, 66, 67, 68, 69, 70] (by decide +kernel) (by decide +kernel)
set_option maxRecDepth 20000 in
theorem gX6_choir_X1_isNone : GoodIn wsX6_choir (wsV RX6 102 RX1 yX1_isNone wsX1_isNone) := goodIn_app (goodIn_of _ (by decide +kernel)) ggX6_choir_X1_isNone
set_option maxRecDepth 20000 in
theorem ggX6_choir_X0_findChoir : GoodIn wsX6_choir wsX0_findChoir := goodIn_r _ [16, 17, 18, 19, 20, 21, 15, 22, 23, 24, 25, 26, 27, 28, 29, 30, 31, 32, 33, 34, 9, 35, 36, 37, 38, 39, 40, 41, 42, 43, 44, 45, 46, 47, 48, 49, 50, 51, 52, 53, 54, 55, 56, 64, 65, 66, 67, 68, 69, 70, 71, 72, 73] (by decide +kernel) (by decide +kernel)
set_option maxRecDepth 20000 in
theorem gX6_choir_X0_findChoir : GoodIn wsX6_choir (wsV RX6 156 RX0 yX0_findChoir wsX0_findChoir) := goodIn_app (goodIn_of _ (by decide +kernel)) ggX6_choir_X0_findChoir
theorem dX6_choir_0 : decode cX6_choir 0 = .ok (.aload_n 0, 1) := by decide +kernel
theorem dX6_choir_1 : decode cX6_choir 1 = .ok (.getfield 20, 3) := by decide +kernel
theorem dX6_choir_4 : decode cX6_choir 4 = .ok (.invokevirtual 102, 3) := by decide +kernel
theorem dX6_choir_7 : decode cX6_choir 7 = .ok (.ifCond .eq 6, 3) := by decide +kernel
theorem dX6_choir_10 : decode cX6_choir 10 = .ok (.bipush (-3), 2) := by decide +kernel
theorem dX6_choir_12 : decode cX6_choir 12 = .ok (.ireturn, 1) := by decide +kernel
theorem dX6_choir_13 : decode cX6_choir 13 = .ok (.iload_n 1, 1) := by decide +kernel
theorem dX6_choir_14 : decode cX6_choir 14 = .ok (.iconst (-1), 1) := by decide +kernel
theorem dX6_choir_15 : decode cX6_choir 15 = .ok (.if_icmp .lt 8, 3) := by decide +kernel
theorem dX6_choir_18 : decode cX6_choir 18 = .ok (.iload_n 1, 1) := by decide +kernel
theorem dX6_choir_19 : decode cX6_choir 19 = .ok (.iconst 5, 1) := by decide +kernel
theorem dX6_choir_20 : decode cX6_choir 20 = .ok (.if_icmp .lt 6, 3) := by decide +kernel
theorem dX6_choir_23 : decode cX6_choir 23 = .ok (.bipush (-2), 2) := by decide +kernel
theorem dX6_choir_25 : decode cX6_choir 25 = .ok (.ireturn, 1) := by decide +kernel
theorem dX6_choir_26 : decode cX6_choir 26 = .ok (.iload_n 1, 1) := by decide +kernel
theorem dX6_choir_27 : decode cX6_choir 27 = .ok (.aload_n 0, 1) := by decide +kernel
theorem dX6_choir_28 : decode cX6_choir 28 = .ok (.getfield 20, 3) := by decide +kernel
theorem dX6_choir_31 : decode cX6_choir 31 = .ok (.getfield 80, 3) := by decide +kernel
theorem dX6_choir_34 : decode cX6_choir 34 = .ok (.if_icmp .ge 17, 3) := by decide +kernel
theorem dX6_choir_37 : decode cX6_choir 37 = .ok (.aload_n 0, 1) := by decide +kernel
theorem dX6_choir_38 : decode cX6_choir 38 = .ok (.getfield 34, 3) := by decide +kernel
theorem dX6_choir_41 : decode cX6_choir 41 = .ok (.aload_n 0, 1) := by decide +kernel
theorem dX6_choir_42 : decode cX6_choir 42 = .ok (.getfield 20, 3) := by decide +kernel
theorem dX6_choir_45 : decode cX6_choir 45 = .ok (.invokevirtual 156, 3) := by decide +kernel
theorem dX6_choir_48 : decode cX6_choir 48 = .ok (.ifCond .ne 6, 3) := by decide +kernel
theorem dX6_choir_51 : decode cX6_choir 51 = .ok (.bipush (-9), 2) := by decide +kernel
theorem dX6_choir_53 : decode cX6_choir 53 = .ok (.ireturn, 1) := by decide +kernel
theorem dX6_choir_54 : decode cX6_choir 54 = .ok (.iload_n 1, 1) := by decide +kernel
theorem dX6_choir_55 : decode cX6_choir 55 = .ok (.iconst (-1), 1) := by decide +kernel
theorem dX6_choir_56 : decode cX6_choir 56 = .ok (.if_icmp .ne 13, 3) := by decide +kernel
theorem dX6_choir_59 : decode cX6_choir 59 = .ok (.aload_n 0, 1) := by decide +kernel
theorem dX6_choir_60 : decode cX6_choir 60 = .ok (.getfield 34, 3) := by decide +kernel
theorem dX6_choir_63 : decode cX6_choir 63 = .ok (.getfield 160, 3) := by decide +kernel
theorem dX6_choir_66 : decode cX6_choir 66 = .ok (.goto 12, 3) := by decide +kernel
theorem dX6_choir_69 : decode cX6_choir 69 = .ok (.aload_n 0, 1) := by decide +kernel
theorem dX6_choir_70 : decode cX6_choir 70 = .ok (.getfield 34, 3) := by decide +kernel
theorem dX6_choir_73 : decode cX6_choir 73 = .ok (.getfield 163, 3) := by decide +kernel
theorem dX6_choir_76 : decode cX6_choir 76 = .ok (.iload_n 1, 1) := by decide +kernel
theorem dX6_choir_77 : decode cX6_choir 77 = .ok (.iaload, 1) := by decide +kernel
theorem dX6_choir_78 : decode cX6_choir 78 = .ok (.ireturn, 1) := by decide +kernel
set_option maxRecDepth 20000 in
theorem ggX6_reading_X1_hasBell : GoodIn wsX6_reading wsX1_hasBell := goodIn_r _ [8, 9, 10, 11, 12, 34, 35, 36, 37, 38, 39, 40] (by decide +kernel) (by decide +kernel)
set_option maxRecDepth 20000 in
theorem gX6_reading_X1_hasBell : GoodIn wsX6_reading (wsV RX6 81 RX1 yX1_hasBell wsX1_hasBell) := goodIn_app (goodIn_of _ (by decide +kernel)) ggX6_reading_X1_hasBell
set_option maxRecDepth 20000 in
theorem ggX6_reading_X6_isBelow : GoodIn wsX6_reading wsX6_isBelow := goodIn_r _ [12] (by decide +kernel) (by decide +kernel)
set_option maxRecDepth 20000 in
theorem gX6_reading_X6_isBelow : GoodIn wsX6_reading (va_wsS RX6 53 yX6_isBelow wsX6_isBelow) := goodIn_app (goodIn_of _ (by decide +kernel)) ggX6_reading_X6_isBelow
set_option maxRecDepth 20000 in
theorem ggX6_reading_X2_keep : GoodIn wsX6_reading wsX2_keep := goodIn_r _ [18, 19, 20, 21, 22, 30, 31, 32, 33] (by decide +kernel) (by decide +kernel)
set_option maxRecDepth 20000 in
theorem gX6_reading_X2_keep : GoodIn wsX6_reading (wsV RX6 166 RX2 yX2_keep wsX2_keep) := goodIn_app (goodIn_of _ (by decide +kernel)) ggX6_reading_X2_keep
theorem dX6_reading_0 : decode cX6_reading 0 = .ok (.aload_n 0, 1) := by decide +kernel
theorem dX6_reading_1 : decode cX6_reading 1 = .ok (.getfield 20, 3) := by decide +kernel
theorem dX6_reading_4 : decode cX6_reading 4 = .ok (.iload_n 1, 1) := by decide +kernel
theorem dX6_reading_5 : decode cX6_reading 5 = .ok (.invokevirtual 81, 3) := by decide +kernel
theorem dX6_reading_8 : decode cX6_reading 8 = .ok (.ifCond .ne 5, 3) := by decide +kernel
theorem dX6_reading_11 : decode cX6_reading 11 = .ok (.iconst (-1), 1) := by decide +kernel
theorem dX6_reading_12 : decode cX6_reading 12 = .ok (.ireturn, 1) := by decide +kernel
theorem dX6_reading_13 : decode cX6_reading 13 = .ok (.iload_n 2, 1) := by decide +kernel
theorem dX6_reading_14 : decode cX6_reading 14 = .ok (.iconst 4, 1) := by decide +kernel
theorem dX6_reading_15 : decode cX6_reading 15 = .ok (.invokestatic 53, 3) := by decide +kernel
theorem dX6_reading_18 : decode cX6_reading 18 = .ok (.ifCond .eq 12, 3) := by decide +kernel
theorem dX6_reading_21 : decode cX6_reading 21 = .ok (.iload_n 3, 1) := by decide +kernel
theorem dX6_reading_22 : decode cX6_reading 22 = .ok (.bipush 20, 2) := by decide +kernel
theorem dX6_reading_24 : decode cX6_reading 24 = .ok (.invokestatic 53, 3) := by decide +kernel
theorem dX6_reading_27 : decode cX6_reading 27 = .ok (.ifCond .ne 6, 3) := by decide +kernel
theorem dX6_reading_30 : decode cX6_reading 30 = .ok (.bipush (-2), 2) := by decide +kernel
theorem dX6_reading_32 : decode cX6_reading 32 = .ok (.ireturn, 1) := by decide +kernel
theorem dX6_reading_33 : decode cX6_reading 33 = .ok (.aload_n 0, 1) := by decide +kernel
theorem dX6_reading_34 : decode cX6_reading 34 = .ok (.getfield 27, 3) := by decide +kernel
theorem dX6_reading_37 : decode cX6_reading 37 = .ok (.getfield 77, 3) := by decide +kernel
theorem dX6_reading_40 : decode cX6_reading 40 = .ok (.bipush 8, 2) := by decide +kernel
theorem dX6_reading_42 : decode cX6_reading 42 = .ok (.if_icmp .lt 6, 3) := by decide +kernel
theorem dX6_reading_45 : decode cX6_reading 45 = .ok (.bipush (-4), 2) := by decide +kernel
theorem dX6_reading_47 : decode cX6_reading 47 = .ok (.ireturn, 1) := by decide +kernel
theorem dX6_reading_48 : decode cX6_reading 48 = .ok (.aload_n 0, 1) := by decide +kernel
theorem dX6_reading_49 : decode cX6_reading 49 = .ok (.getfield 27, 3) := by decide +kernel
theorem dX6_reading_52 : decode cX6_reading 52 = .ok (.iload_n 1, 1) := by decide +kernel
theorem dX6_reading_53 : decode cX6_reading 53 = .ok (.iload_n 2, 1) := by decide +kernel
theorem dX6_reading_54 : decode cX6_reading 54 = .ok (.iload_n 3, 1) := by decide +kernel
theorem dX6_reading_55 : decode cX6_reading 55 = .ok (.invokevirtual 166, 3) := by decide +kernel
theorem dX6_reading_58 : decode cX6_reading 58 = .ok (.ireturn, 1) := by decide +kernel
theorem dX6_back_0 : decode cX6_back 0 = .ok (.iload_n 1, 1) := by decide +kernel
theorem dX6_back_1 : decode cX6_back 1 = .ok (.ifCond .lt 14, 3) := by decide +kernel
theorem dX6_back_4 : decode cX6_back 4 = .ok (.iload_n 1, 1) := by decide +kernel
theorem dX6_back_5 : decode cX6_back 5 = .ok (.aload_n 0, 1) := by decide +kernel
theorem dX6_back_6 : decode cX6_back 6 = .ok (.getfield 27, 3) := by decide +kernel
theorem dX6_back_9 : decode cX6_back 9 = .ok (.getfield 77, 3) := by decide +kernel
theorem dX6_back_12 : decode cX6_back 12 = .ok (.if_icmp .le 6, 3) := by decide +kernel
theorem dX6_back_15 : decode cX6_back 15 = .ok (.bipush (-2), 2) := by decide +kernel
theorem dX6_back_17 : decode cX6_back 17 = .ok (.ireturn, 1) := by decide +kernel
theorem dX6_back_18 : decode cX6_back 18 = .ok (.aload_n 0, 1) := by decide +kernel
theorem dX6_back_19 : decode cX6_back 19 = .ok (.getfield 27, 3) := by decide +kernel
theorem dX6_back_22 : decode cX6_back 22 = .ok (.dup, 1) := by decide +kernel
theorem dX6_back_23 : decode cX6_back 23 = .ok (.getfield 77, 3) := by decide +kernel
theorem dX6_back_26 : decode cX6_back 26 = .ok (.iload_n 1, 1) := by decide +kernel
theorem dX6_back_27 : decode cX6_back 27 = .ok (.isub, 1) := by decide +kernel
theorem dX6_back_28 : decode cX6_back 28 = .ok (.putfield 77, 3) := by decide +kernel
theorem dX6_back_31 : decode cX6_back 31 = .ok (.aload_n 0, 1) := by decide +kernel
theorem dX6_back_32 : decode cX6_back 32 = .ok (.getfield 27, 3) := by decide +kernel
theorem dX6_back_35 : decode cX6_back 35 = .ok (.getfield 77, 3) := by decide +kernel
theorem dX6_back_38 : decode cX6_back 38 = .ok (.ireturn, 1) := by decide +kernel
set_option maxRecDepth 20000 in
theorem ggX6_notes_X1_hasBell : GoodIn wsX6_notes wsX1_hasBell := goodIn_r _ [9, 10, 11, 12, 13, 38, 39, 40, 41, 42, 43, 44] (by decide +kernel) (by decide +kernel)
set_option maxRecDepth 20000 in
theorem gX6_notes_X1_hasBell : GoodIn wsX6_notes (wsV RX6 81 RX1 yX1_hasBell wsX1_hasBell) := goodIn_app (goodIn_of _ (by decide +kernel)) ggX6_notes_X1_hasBell
set_option maxRecDepth 20000 in
theorem ggX6_notes_X2_areSo : GoodIn wsX6_notes wsX2_areSo := goodIn_r _ [18, 19, 20, 21, 22, 23, 24, 25, 12, 26, 27, 28, 29, 30, 45, 46, 47, 48, 38, 39, 40, 41, 42, 43, 44] (by decide +kernel) (by decide +kernel)
set_option maxRecDepth 20000 in
theorem gX6_notes_X2_areSo : GoodIn wsX6_notes (wsV RX6 170 RX2 yX2_areSo wsX2_areSo) := goodIn_app (goodIn_of _ (by decide +kernel)) ggX6_notes_X2_areSo
theorem dX6_notes_0 : decode cX6_notes 0 = .ok (.aload_n 0, 1) := by decide +kernel
theorem dX6_notes_1 : decode cX6_notes 1 = .ok (.getfield 20, 3) := by decide +kernel
theorem dX6_notes_4 : decode cX6_notes 4 = .ok (.iload_n 1, 1) := by decide +kernel
theorem dX6_notes_5 : decode cX6_notes 5 = .ok (.invokevirtual 81, 3) := by decide +kernel
theorem dX6_notes_8 : decode cX6_notes 8 = .ok (.ifCond .ne 5, 3) := by decide +kernel
theorem dX6_notes_11 : decode cX6_notes 11 = .ok (.iconst (-1), 1) := by decide +kernel
theorem dX6_notes_12 : decode cX6_notes 12 = .ok (.ireturn, 1) := by decide +kernel
theorem dX6_notes_13 : decode cX6_notes 13 = .ok (.iconst 0, 1) := by decide +kernel
theorem dX6_notes_14 : decode cX6_notes 14 = .ok (.istore_n 2, 1) := by decide +kernel
theorem dX6_notes_15 : decode cX6_notes 15 = .ok (.iconst 0, 1) := by decide +kernel
theorem dX6_notes_16 : decode cX6_notes 16 = .ok (.istore_n 3, 1) := by decide +kernel
theorem dX6_notes_17 : decode cX6_notes 17 = .ok (.iload_n 3, 1) := by decide +kernel
theorem dX6_notes_18 : decode cX6_notes 18 = .ok (.bipush 10, 2) := by decide +kernel
theorem dX6_notes_20 : decode cX6_notes 20 = .ok (.if_icmp .ge 47, 3) := by decide +kernel
theorem dX6_notes_23 : decode cX6_notes 23 = .ok (.aload_n 0, 1) := by decide +kernel
theorem dX6_notes_24 : decode cX6_notes 24 = .ok (.getfield 27, 3) := by decide +kernel
theorem dX6_notes_27 : decode cX6_notes 27 = .ok (.aload_n 0, 1) := by decide +kernel
theorem dX6_notes_28 : decode cX6_notes 28 = .ok (.getfield 20, 3) := by decide +kernel
theorem dX6_notes_31 : decode cX6_notes 31 = .ok (.iload_n 1, 1) := by decide +kernel
theorem dX6_notes_32 : decode cX6_notes 32 = .ok (.aload_n 0, 1) := by decide +kernel
theorem dX6_notes_33 : decode cX6_notes 33 = .ok (.getfield 20, 3) := by decide +kernel
theorem dX6_notes_36 : decode cX6_notes 36 = .ok (.getfield 85, 3) := by decide +kernel
theorem dX6_notes_39 : decode cX6_notes 39 = .ok (.iload_n 1, 1) := by decide +kernel
theorem dX6_notes_40 : decode cX6_notes 40 = .ok (.iaload, 1) := by decide +kernel
theorem dX6_notes_41 : decode cX6_notes 41 = .ok (.iload_n 3, 1) := by decide +kernel
theorem dX6_notes_42 : decode cX6_notes 42 = .ok (.aload_n 0, 1) := by decide +kernel
theorem dX6_notes_43 : decode cX6_notes 43 = .ok (.getfield 20, 3) := by decide +kernel
theorem dX6_notes_46 : decode cX6_notes 46 = .ok (.getfield 106, 3) := by decide +kernel
theorem dX6_notes_49 : decode cX6_notes 49 = .ok (.invokevirtual 170, 3) := by decide +kernel
theorem dX6_notes_52 : decode cX6_notes 52 = .ok (.ifCond .eq 9, 3) := by decide +kernel
theorem dX6_notes_55 : decode cX6_notes 55 = .ok (.iload_n 2, 1) := by decide +kernel
theorem dX6_notes_56 : decode cX6_notes 56 = .ok (.iconst 1, 1) := by decide +kernel
theorem dX6_notes_57 : decode cX6_notes 57 = .ok (.iload_n 3, 1) := by decide +kernel
theorem dX6_notes_58 : decode cX6_notes 58 = .ok (.ishl, 1) := by decide +kernel
theorem dX6_notes_59 : decode cX6_notes 59 = .ok (.ior, 1) := by decide +kernel
theorem dX6_notes_60 : decode cX6_notes 60 = .ok (.istore_n 2, 1) := by decide +kernel
theorem dX6_notes_61 : decode cX6_notes 61 = .ok (.iinc 3 1, 3) := by decide +kernel
theorem dX6_notes_64 : decode cX6_notes 64 = .ok (.goto (-47), 3) := by decide +kernel
theorem dX6_notes_67 : decode cX6_notes 67 = .ok (.iload_n 2, 1) := by decide +kernel
theorem dX6_notes_68 : decode cX6_notes 68 = .ok (.ireturn, 1) := by decide +kernel
set_option maxRecDepth 20000 in
theorem ggX6_kinds_X1_hasBell : GoodIn wsX6_kinds wsX1_hasBell := goodIn_r _ [9, 10, 11, 12, 13, 38, 39, 40, 41, 42, 43, 44] (by decide +kernel) (by decide +kernel)
set_option maxRecDepth 20000 in
theorem gX6_kinds_X1_hasBell : GoodIn wsX6_kinds (wsV RX6 81 RX1 yX1_hasBell wsX1_hasBell) := goodIn_app (goodIn_of _ (by decide +kernel)) ggX6_kinds_X1_hasBell
set_option maxRecDepth 20000 in
theorem ggX6_kinds_X2_areSo : GoodIn wsX6_kinds wsX2_areSo := goodIn_r _ [18, 19, 20, 21, 22, 23, 24, 25, 12, 26, 27, 28, 29, 30, 45, 46, 47, 48, 38, 39, 40, 41, 42, 43, 44] (by decide +kernel) (by decide +kernel)
set_option maxRecDepth 20000 in
theorem gX6_kinds_X2_areSo : GoodIn wsX6_kinds (wsV RX6 170 RX2 yX2_areSo wsX2_areSo) := goodIn_app (goodIn_of _ (by decide +kernel)) ggX6_kinds_X2_areSo
theorem dX6_kinds_0 : decode cX6_kinds 0 = .ok (.aload_n 0, 1) := by decide +kernel
theorem dX6_kinds_1 : decode cX6_kinds 1 = .ok (.getfield 20, 3) := by decide +kernel
theorem dX6_kinds_4 : decode cX6_kinds 4 = .ok (.iload_n 1, 1) := by decide +kernel
theorem dX6_kinds_5 : decode cX6_kinds 5 = .ok (.invokevirtual 81, 3) := by decide +kernel
theorem dX6_kinds_8 : decode cX6_kinds 8 = .ok (.ifCond .ne 5, 3) := by decide +kernel
theorem dX6_kinds_11 : decode cX6_kinds 11 = .ok (.iconst (-1), 1) := by decide +kernel
theorem dX6_kinds_12 : decode cX6_kinds 12 = .ok (.ireturn, 1) := by decide +kernel
theorem dX6_kinds_13 : decode cX6_kinds 13 = .ok (.iconst 0, 1) := by decide +kernel
theorem dX6_kinds_14 : decode cX6_kinds 14 = .ok (.istore_n 2, 1) := by decide +kernel
theorem dX6_kinds_15 : decode cX6_kinds 15 = .ok (.iconst 0, 1) := by decide +kernel
theorem dX6_kinds_16 : decode cX6_kinds 16 = .ok (.istore_n 3, 1) := by decide +kernel
theorem dX6_kinds_17 : decode cX6_kinds 17 = .ok (.iload_n 3, 1) := by decide +kernel
theorem dX6_kinds_18 : decode cX6_kinds 18 = .ok (.iconst 3, 1) := by decide +kernel
theorem dX6_kinds_19 : decode cX6_kinds 19 = .ok (.if_icmp .ge 47, 3) := by decide +kernel
theorem dX6_kinds_22 : decode cX6_kinds 22 = .ok (.aload_n 0, 1) := by decide +kernel
theorem dX6_kinds_23 : decode cX6_kinds 23 = .ok (.getfield 27, 3) := by decide +kernel
theorem dX6_kinds_26 : decode cX6_kinds 26 = .ok (.aload_n 0, 1) := by decide +kernel
theorem dX6_kinds_27 : decode cX6_kinds 27 = .ok (.getfield 20, 3) := by decide +kernel
theorem dX6_kinds_30 : decode cX6_kinds 30 = .ok (.iload_n 1, 1) := by decide +kernel
theorem dX6_kinds_31 : decode cX6_kinds 31 = .ok (.iload_n 3, 1) := by decide +kernel
theorem dX6_kinds_32 : decode cX6_kinds 32 = .ok (.aload_n 0, 1) := by decide +kernel
theorem dX6_kinds_33 : decode cX6_kinds 33 = .ok (.getfield 20, 3) := by decide +kernel
theorem dX6_kinds_36 : decode cX6_kinds 36 = .ok (.getfield 89, 3) := by decide +kernel
theorem dX6_kinds_39 : decode cX6_kinds 39 = .ok (.iload_n 1, 1) := by decide +kernel
theorem dX6_kinds_40 : decode cX6_kinds 40 = .ok (.iaload, 1) := by decide +kernel
theorem dX6_kinds_41 : decode cX6_kinds 41 = .ok (.aload_n 0, 1) := by decide +kernel
theorem dX6_kinds_42 : decode cX6_kinds 42 = .ok (.getfield 20, 3) := by decide +kernel
theorem dX6_kinds_45 : decode cX6_kinds 45 = .ok (.getfield 106, 3) := by decide +kernel
theorem dX6_kinds_48 : decode cX6_kinds 48 = .ok (.invokevirtual 170, 3) := by decide +kernel
