theorem dX6_ofWalk_83 : decode cX6_ofWalk 83 = .ok (.bipush 10, 2) := by decide +kernel
theorem dX6_ofWalk_85 : decode cX6_ofWalk 85 = .ok (.isub, 1) := by decide +kernel
theorem dX6_ofWalk_86 : decode cX6_ofWalk 86 = .ok (.istore_n 2, 1) := by decide +kernel
theorem dX6_ofWalk_87 : decode cX6_ofWalk 87 = .ok (.aload_n 0, 1) := by decide +kernel
theorem dX6_ofWalk_88 : decode cX6_ofWalk 88 = .ok (.getfield 20, 3) := by decide +kernel
theorem dX6_ofWalk_91 : decode cX6_ofWalk 91 = .ok (.iload_n 2, 1) := by decide +kernel
theorem dX6_ofWalk_92 : decode cX6_ofWalk 92 = .ok (.invokevirtual 81, 3) := by decide +kernel
theorem dX6_ofWalk_95 : decode cX6_ofWalk 95 = .ok (.ifCond .eq 15, 3) := by decide +kernel
theorem dX6_ofWalk_98 : decode cX6_ofWalk 98 = .ok (.aload_n 0, 1) := by decide +kernel
theorem dX6_ofWalk_99 : decode cX6_ofWalk 99 = .ok (.getfield 41, 3) := by decide +kernel
theorem dX6_ofWalk_102 : decode cX6_ofWalk 102 = .ok (.getfield 223, 3) := by decide +kernel
theorem dX6_ofWalk_105 : decode cX6_ofWalk 105 = .ok (.iload_n 2, 1) := by decide +kernel
theorem dX6_ofWalk_106 : decode cX6_ofWalk 106 = .ok (.iaload, 1) := by decide +kernel
theorem dX6_ofWalk_107 : decode cX6_ofWalk 107 = .ok (.goto 5, 3) := by decide +kernel
theorem dX6_ofWalk_110 : decode cX6_ofWalk 110 = .ok (.bipush (-9), 2) := by decide +kernel
theorem dX6_ofWalk_112 : decode cX6_ofWalk 112 = .ok (.ireturn, 1) := by decide +kernel
set_option maxRecDepth 20000 in
theorem ggX6_loudestSpot_X1_heardFrom : GoodIn wsX6_loudestSpot wsX1_heardFrom := goodIn_r _ [8, 9, 10, 11, 12, 7, 13, 14, 15, 16, 17, 18, 19, 20, 21, 39, 40, 41, 42, 43, 44, 45] (by decide +kernel) (by decide +kernel)
set_option maxRecDepth 20000 in
theorem gX6_loudestSpot_X1_heardFrom : GoodIn wsX6_loudestSpot (wsV RX6 116 RX1 yX1_heardFrom wsX1_heardFrom) := goodIn_app (goodIn_of _ (by decide +kernel)) ggX6_loudestSpot_X1_heardFrom
set_option maxRecDepth 20000 in
theorem ggX6_loudestSpot_J6_bitCount_0f7a4 : GoodIn wsX6_loudestSpot wsJ6_bitCount_0f7a4 := goodIn_r _ [25, 26, 27, 28] (by decide +kernel) (by decide +kernel)
set_option maxRecDepth 20000 in
theorem gX6_loudestSpot_J6_bitCount_0f7a4 : GoodIn wsX6_loudestSpot (va_wsS RX6 224 yJ6_bitCount_0f7a4 wsJ6_bitCount_0f7a4) := goodIn_app (goodIn_of _ (by decide +kernel)) ggX6_loudestSpot_J6_bitCount_0f7a4
theorem dX6_loudestSpot_0 : decode cX6_loudestSpot 0 = .ok (.iconst 0, 1) := by decide +kernel
theorem dX6_loudestSpot_1 : decode cX6_loudestSpot 1 = .ok (.istore_n 1, 1) := by decide +kernel
theorem dX6_loudestSpot_2 : decode cX6_loudestSpot 2 = .ok (.iconst 0, 1) := by decide +kernel
theorem dX6_loudestSpot_3 : decode cX6_loudestSpot 3 = .ok (.istore_n 2, 1) := by decide +kernel
theorem dX6_loudestSpot_4 : decode cX6_loudestSpot 4 = .ok (.iconst 0, 1) := by decide +kernel
theorem dX6_loudestSpot_5 : decode cX6_loudestSpot 5 = .ok (.istore_n 3, 1) := by decide +kernel
theorem dX6_loudestSpot_6 : decode cX6_loudestSpot 6 = .ok (.iload_n 3, 1) := by decide +kernel
theorem dX6_loudestSpot_7 : decode cX6_loudestSpot 7 = .ok (.bipush 10, 2) := by decide +kernel
theorem dX6_loudestSpot_9 : decode cX6_loudestSpot 9 = .ok (.if_icmp .ge 40, 3) := by decide +kernel
theorem dX6_loudestSpot_12 : decode cX6_loudestSpot 12 = .ok (.aload_n 0, 1) := by decide +kernel
theorem dX6_loudestSpot_13 : decode cX6_loudestSpot 13 = .ok (.getfield 20, 3) := by decide +kernel
theorem dX6_loudestSpot_16 : decode cX6_loudestSpot 16 = .ok (.aload_n 0, 1) := by decide +kernel
theorem dX6_loudestSpot_17 : decode cX6_loudestSpot 17 = .ok (.getfield 41, 3) := by decide +kernel
theorem dX6_loudestSpot_20 : decode cX6_loudestSpot 20 = .ok (.getfield 223, 3) := by decide +kernel
theorem dX6_loudestSpot_23 : decode cX6_loudestSpot 23 = .ok (.iload_n 3, 1) := by decide +kernel
theorem dX6_loudestSpot_24 : decode cX6_loudestSpot 24 = .ok (.invokevirtual 116, 3) := by decide +kernel
theorem dX6_loudestSpot_27 : decode cX6_loudestSpot 27 = .ok (.invokestatic 224, 3) := by decide +kernel
theorem dX6_loudestSpot_30 : decode cX6_loudestSpot 30 = .ok (.istore 4, 2) := by decide +kernel
theorem dX6_loudestSpot_32 : decode cX6_loudestSpot 32 = .ok (.iload 4, 2) := by decide +kernel
theorem dX6_loudestSpot_34 : decode cX6_loudestSpot 34 = .ok (.iload_n 2, 1) := by decide +kernel
theorem dX6_loudestSpot_35 : decode cX6_loudestSpot 35 = .ok (.if_icmp .le 8, 3) := by decide +kernel
theorem dX6_loudestSpot_38 : decode cX6_loudestSpot 38 = .ok (.iload_n 3, 1) := by decide +kernel
theorem dX6_loudestSpot_39 : decode cX6_loudestSpot 39 = .ok (.istore_n 1, 1) := by decide +kernel
theorem dX6_loudestSpot_40 : decode cX6_loudestSpot 40 = .ok (.iload 4, 2) := by decide +kernel
theorem dX6_loudestSpot_42 : decode cX6_loudestSpot 42 = .ok (.istore_n 2, 1) := by decide +kernel
theorem dX6_loudestSpot_43 : decode cX6_loudestSpot 43 = .ok (.iinc 3 1, 3) := by decide +kernel
theorem dX6_loudestSpot_46 : decode cX6_loudestSpot 46 = .ok (.goto (-40), 3) := by decide +kernel
theorem dX6_loudestSpot_49 : decode cX6_loudestSpot 49 = .ok (.iload_n 1, 1) := by decide +kernel
theorem dX6_loudestSpot_50 : decode cX6_loudestSpot 50 = .ok (.ireturn, 1) := by decide +kernel
theorem dX6_leave_0 : decode cX6_leave 0 = .ok (.aload_n 0, 1) := by decide +kernel
theorem dX6_leave_1 : decode cX6_leave 1 = .ok (.bipush 31, 2) := by decide +kernel
theorem dX6_leave_3 : decode cX6_leave 3 = .ok (.aload_n 0, 1) := by decide +kernel
theorem dX6_leave_4 : decode cX6_leave 4 = .ok (.getfield 45, 3) := by decide +kernel
theorem dX6_leave_7 : decode cX6_leave 7 = .ok (.imul, 1) := by decide +kernel
theorem dX6_leave_8 : decode cX6_leave 8 = .ok (.iload_n 1, 1) := by decide +kernel
theorem dX6_leave_9 : decode cX6_leave 9 = .ok (.iadd, 1) := by decide +kernel
theorem dX6_leave_10 : decode cX6_leave 10 = .ok (.putfield 45, 3) := by decide +kernel
theorem dX6_leave_13 : decode cX6_leave 13 = .ok (.return_, 1) := by decide +kernel
set_option maxRecDepth 20000 in
theorem ggX6_plainBody_X6_leave : GoodIn wsX6_plainBody wsX6_leave := goodIn_r _ [7, 8, 9, 10, 11, 12, 13, 14, 15] (by decide +kernel) (by decide +kernel)
set_option maxRecDepth 20000 in
theorem gX6_plainBody_X6_leave : GoodIn wsX6_plainBody (wsV RX6 210 RX6 yX6_leave wsX6_leave) := goodIn_app (goodIn_of _ (by decide +kernel)) ggX6_plainBody_X6_leave
theorem dX6_plainBody_0 : decode cX6_plainBody 0 = .ok (.aload_n 0, 1) := by decide +kernel
theorem dX6_plainBody_1 : decode cX6_plainBody 1 = .ok (.iconst 1, 1) := by decide +kernel
theorem dX6_plainBody_2 : decode cX6_plainBody 2 = .ok (.invokevirtual 210, 3) := by decide +kernel
theorem dX6_plainBody_5 : decode cX6_plainBody 5 = .ok (.aload_n 0, 1) := by decide +kernel
theorem dX6_plainBody_6 : decode cX6_plainBody 6 = .ok (.getfield 20, 3) := by decide +kernel
theorem dX6_plainBody_9 : decode cX6_plainBody 9 = .ok (.getfield 89, 3) := by decide +kernel
theorem dX6_plainBody_12 : decode cX6_plainBody 12 = .ok (.iload_n 1, 1) := by decide +kernel
theorem dX6_plainBody_13 : decode cX6_plainBody 13 = .ok (.iaload, 1) := by decide +kernel
theorem dX6_plainBody_14 : decode cX6_plainBody 14 = .ok (.ireturn, 1) := by decide +kernel
set_option maxRecDepth 20000 in
theorem ggX6_crackedBody_X6_leave : GoodIn wsX6_crackedBody wsX6_leave := goodIn_r _ [5, 6, 13, 14, 15, 16, 17, 18, 19] (by decide +kernel) (by decide +kernel)
set_option maxRecDepth 20000 in
theorem gX6_crackedBody_X6_leave : GoodIn wsX6_crackedBody (wsV RX6 210 RX6 yX6_leave wsX6_leave) := goodIn_app (goodIn_of _ (by decide +kernel)) ggX6_crackedBody_X6_leave
set_option maxRecDepth 20000 in
theorem ggX6_crackedBody_X6_plainBody : GoodIn wsX6_crackedBody wsX6_plainBody := goodIn_r _ [10, 11, 12, 1, 2, 3, 4, 5, 6, 13, 14, 15, 16, 17, 18, 19, 20, 21, 22, 23, 24, 25, 26] (by decide +kernel) (by decide +kernel)
set_option maxRecDepth 20000 in
theorem gX6_crackedBody_X6_plainBody : GoodIn wsX6_crackedBody (wsV RX6 207 RX6 yX6_plainBody wsX6_plainBody) := goodIn_app (goodIn_of _ (by decide +kernel)) ggX6_crackedBody_X6_plainBody
theorem dX6_crackedBody_0 : decode cX6_crackedBody 0 = .ok (.aload_n 0, 1) := by decide +kernel
theorem dX6_crackedBody_1 : decode cX6_crackedBody 1 = .ok (.iconst 2, 1) := by decide +kernel
theorem dX6_crackedBody_2 : decode cX6_crackedBody 2 = .ok (.invokevirtual 210, 3) := by decide +kernel
theorem dX6_crackedBody_5 : decode cX6_crackedBody 5 = .ok (.aload_n 0, 1) := by decide +kernel
theorem dX6_crackedBody_6 : decode cX6_crackedBody 6 = .ok (.iload_n 1, 1) := by decide +kernel
theorem dX6_crackedBody_7 : decode cX6_crackedBody 7 = .ok (.invokevirtual 207, 3) := by decide +kernel
theorem dX6_crackedBody_10 : decode cX6_crackedBody 10 = .ok (.bipush 100, 2) := by decide +kernel
theorem dX6_crackedBody_12 : decode cX6_crackedBody 12 = .ok (.iadd, 1) := by decide +kernel
theorem dX6_crackedBody_13 : decode cX6_crackedBody 13 = .ok (.ireturn, 1) := by decide +kernel
set_option maxRecDepth 20000 in
theorem ggX6_stuffedBody_X6_leave : GoodIn wsX6_stuffedBody wsX6_leave := goodIn_r _ [5, 6, 17, 18, 19, 20, 21, 22, 23] (by decide +kernel) (by decide +kernel)
set_option maxRecDepth 20000 in
theorem gX6_stuffedBody_X6_leave : GoodIn wsX6_stuffedBody (wsV RX6 210 RX6 yX6_leave wsX6_leave) := goodIn_app (goodIn_of _ (by decide +kernel)) ggX6_stuffedBody_X6_leave
set_option maxRecDepth 20000 in
theorem ggX6_stuffedBody_X6_crackedBody : GoodIn wsX6_stuffedBody wsX6_crackedBody := goodIn_r _ [10, 1, 2, 3, 4, 5, 6, 11, 12, 13, 14, 15, 16, 17, 18, 19, 20, 21, 22, 23, 24, 25, 26, 27, 28, 29, 30] (by decide +kernel) (by decide +kernel)
set_option maxRecDepth 20000 in
theorem gX6_stuffedBody_X6_crackedBody : GoodIn wsX6_stuffedBody (wsV RX6 204 RX6 yX6_crackedBody wsX6_crackedBody) := goodIn_app (goodIn_of _ (by decide +kernel)) ggX6_stuffedBody_X6_crackedBody
set_option maxRecDepth 20000 in
theorem ggX6_stuffedBody_X6_plainBody : GoodIn wsX6_stuffedBody wsX6_plainBody := goodIn_r _ [14, 15, 16, 1, 2, 3, 4, 5, 6, 17, 18, 19, 20, 21, 22, 23, 24, 25, 26, 27, 28, 29, 30] (by decide +kernel) (by decide +kernel)
set_option maxRecDepth 20000 in
theorem gX6_stuffedBody_X6_plainBody : GoodIn wsX6_stuffedBody (wsV RX6 207 RX6 yX6_plainBody wsX6_plainBody) := goodIn_app (goodIn_of _ (by decide +kernel)) ggX6_stuffedBody_X6_plainBody
theorem dX6_stuffedBody_0 : decode cX6_stuffedBody 0 = .ok (.aload_n 0, 1) := by decide +kernel
theorem dX6_stuffedBody_1 : decode cX6_stuffedBody 1 = .ok (.iconst 3, 1) := by decide +kernel
theorem dX6_stuffedBody_2 : decode cX6_stuffedBody 2 = .ok (.invokevirtual 210, 3) := by decide +kernel
theorem dX6_stuffedBody_5 : decode cX6_stuffedBody 5 = .ok (.aload_n 0, 1) := by decide +kernel
theorem dX6_stuffedBody_6 : decode cX6_stuffedBody 6 = .ok (.iload_n 1, 1) := by decide +kernel
theorem dX6_stuffedBody_7 : decode cX6_stuffedBody 7 = .ok (.invokevirtual 204, 3) := by decide +kernel
theorem dX6_stuffedBody_10 : decode cX6_stuffedBody 10 = .ok (.istore_n 2, 1) := by decide +kernel
theorem dX6_stuffedBody_11 : decode cX6_stuffedBody 11 = .ok (.iload_n 2, 1) := by decide +kernel
theorem dX6_stuffedBody_12 : decode cX6_stuffedBody 12 = .ok (.aload_n 0, 1) := by decide +kernel
theorem dX6_stuffedBody_13 : decode cX6_stuffedBody 13 = .ok (.iload_n 1, 1) := by decide +kernel
theorem dX6_stuffedBody_14 : decode cX6_stuffedBody 14 = .ok (.invokevirtual 207, 3) := by decide +kernel
theorem dX6_stuffedBody_17 : decode cX6_stuffedBody 17 = .ok (.iadd, 1) := by decide +kernel
theorem dX6_stuffedBody_18 : decode cX6_stuffedBody 18 = .ok (.ireturn, 1) := by decide +kernel
theorem dX7_init_0 : decode cX7_init 0 = .ok (.aload_n 0, 1) := by decide +kernel
theorem dX7_init_1 : decode cX7_init 1 = .ok (.invokespecial 1, 3) := by decide +kernel
theorem dX7_init_4 : decode cX7_init 4 = .ok (.aload_n 0, 1) := by decide +kernel
theorem dX7_init_5 : decode cX7_init 5 = .ok (.iconst 4, 1) := by decide +kernel
theorem dX7_init_6 : decode cX7_init 6 = .ok (.newarray .int, 2) := by decide +kernel
theorem dX7_init_8 : decode cX7_init 8 = .ok (.dup, 1) := by decide +kernel
theorem dX7_init_9 : decode cX7_init 9 = .ok (.iconst 0, 1) := by decide +kernel
theorem dX7_init_10 : decode cX7_init 10 = .ok (.bipush (-9), 2) := by decide +kernel
theorem dX7_init_12 : decode cX7_init 12 = .ok (.iastore, 1) := by decide +kernel
theorem dX7_init_13 : decode cX7_init 13 = .ok (.dup, 1) := by decide +kernel
theorem dX7_init_14 : decode cX7_init 14 = .ok (.iconst 1, 1) := by decide +kernel
theorem dX7_init_15 : decode cX7_init 15 = .ok (.bipush (-9), 2) := by decide +kernel
theorem dX7_init_17 : decode cX7_init 17 = .ok (.iastore, 1) := by decide +kernel
theorem dX7_init_18 : decode cX7_init 18 = .ok (.dup, 1) := by decide +kernel
theorem dX7_init_19 : decode cX7_init 19 = .ok (.iconst 2, 1) := by decide +kernel
theorem dX7_init_20 : decode cX7_init 20 = .ok (.bipush (-9), 2) := by decide +kernel
theorem dX7_init_22 : decode cX7_init 22 = .ok (.iastore, 1) := by decide +kernel
theorem dX7_init_23 : decode cX7_init 23 = .ok (.dup, 1) := by decide +kernel
theorem dX7_init_24 : decode cX7_init 24 = .ok (.iconst 3, 1) := by decide +kernel
theorem dX7_init_25 : decode cX7_init 25 = .ok (.bipush (-9), 2) := by decide +kernel
theorem dX7_init_27 : decode cX7_init 27 = .ok (.iastore, 1) := by decide +kernel
theorem dX7_init_28 : decode cX7_init 28 = .ok (.putfield 9, 3) := by decide +kernel
theorem dX7_init_31 : decode cX7_init 31 = .ok (.aload_n 0, 1) := by decide +kernel
theorem dX7_init_32 : decode cX7_init 32 = .ok (.iconst 4, 1) := by decide +kernel
theorem dX7_init_33 : decode cX7_init 33 = .ok (.newarray .int, 2) := by decide +kernel
theorem dX7_init_35 : decode cX7_init 35 = .ok (.putfield 13, 3) := by decide +kernel
theorem dX7_init_38 : decode cX7_init 38 = .ok (.aload_n 0, 1) := by decide +kernel
theorem dX7_init_39 : decode cX7_init 39 = .ok (.sipush 240, 3) := by decide +kernel
theorem dX7_init_42 : decode cX7_init 42 = .ok (.newarray .int, 2) := by decide +kernel
theorem dX7_init_44 : decode cX7_init 44 = .ok (.putfield 16, 3) := by decide +kernel
theorem dX7_init_47 : decode cX7_init 47 = .ok (.aload_n 0, 1) := by decide +kernel
theorem dX7_init_48 : decode cX7_init 48 = .ok (.iconst 5, 1) := by decide +kernel
theorem dX7_init_49 : decode cX7_init 49 = .ok (.newarray .int, 2) := by decide +kernel
theorem dX7_init_51 : decode cX7_init 51 = .ok (.putfield 19, 3) := by decide +kernel
theorem dX7_init_54 : decode cX7_init 54 = .ok (.aload_n 0, 1) := by decide +kernel
theorem dX7_init_55 : decode cX7_init 55 = .ok (.iconst 5, 1) := by decide +kernel
theorem dX7_init_56 : decode cX7_init 56 = .ok (.newarray .int, 2) := by decide +kernel
theorem dX7_init_58 : decode cX7_init 58 = .ok (.putfield 22, 3) := by decide +kernel
theorem dX7_init_61 : decode cX7_init 61 = .ok (.aload_n 0, 1) := by decide +kernel
theorem dX7_init_62 : decode cX7_init 62 = .ok (.iconst 5, 1) := by decide +kernel
theorem dX7_init_63 : decode cX7_init 63 = .ok (.newarray .int, 2) := by decide +kernel
theorem dX7_init_65 : decode cX7_init 65 = .ok (.putfield 25, 3) := by decide +kernel
theorem dX7_init_68 : decode cX7_init 68 = .ok (.aload_n 0, 1) := by decide +kernel
theorem dX7_init_69 : decode cX7_init 69 = .ok (.iconst 5, 1) := by decide +kernel
theorem dX7_init_70 : decode cX7_init 70 = .ok (.newarray .int, 2) := by decide +kernel
theorem dX7_init_72 : decode cX7_init 72 = .ok (.putfield 28, 3) := by decide +kernel
theorem dX7_init_75 : decode cX7_init 75 = .ok (.aload_n 0, 1) := by decide +kernel
theorem dX7_init_76 : decode cX7_init 76 = .ok (.iconst 5, 1) := by decide +kernel
theorem dX7_init_77 : decode cX7_init 77 = .ok (.newarray .int, 2) := by decide +kernel
theorem dX7_init_79 : decode cX7_init 79 = .ok (.putfield 31, 3) := by decide +kernel
theorem dX7_init_82 : decode cX7_init 82 = .ok (.aload_n 0, 1) := by decide +kernel
theorem dX7_init_83 : decode cX7_init 83 = .ok (.iconst 5, 1) := by decide +kernel
theorem dX7_init_84 : decode cX7_init 84 = .ok (.newarray .int, 2) := by decide +kernel
theorem dX7_init_86 : decode cX7_init 86 = .ok (.putfield 34, 3) := by decide +kernel
theorem dX7_init_89 : decode cX7_init 89 = .ok (.aload_n 0, 1) := by decide +kernel
theorem dX7_init_90 : decode cX7_init 90 = .ok (.iconst 5, 1) := by decide +kernel
theorem dX7_init_91 : decode cX7_init 91 = .ok (.newarray .int, 2) := by decide +kernel
theorem dX7_init_93 : decode cX7_init 93 = .ok (.putfield 37, 3) := by decide +kernel
theorem dX7_init_96 : decode cX7_init 96 = .ok (.aload_n 0, 1) := by decide +kernel
theorem dX7_init_97 : decode cX7_init 97 = .ok (.iconst 5, 1) := by decide +kernel
theorem dX7_init_98 : decode cX7_init 98 = .ok (.newarray .int, 2) := by decide +kernel
theorem dX7_init_100 : decode cX7_init 100 = .ok (.putfield 40, 3) := by decide +kernel
theorem dX7_init_103 : decode cX7_init 103 = .ok (.aload_n 0, 1) := by decide +kernel
theorem dX7_init_104 : decode cX7_init 104 = .ok (.iconst 5, 1) := by decide +kernel
theorem dX7_init_105 : decode cX7_init 105 = .ok (.newarray .int, 2) := by decide +kernel
theorem dX7_init_107 : decode cX7_init 107 = .ok (.putfield 43, 3) := by decide +kernel
theorem dX7_init_110 : decode cX7_init 110 = .ok (.aload_n 0, 1) := by decide +kernel
theorem dX7_init_111 : decode cX7_init 111 = .ok (.iconst 5, 1) := by decide +kernel
theorem dX7_init_112 : decode cX7_init 112 = .ok (.newarray .int, 2) := by decide +kernel
theorem dX7_init_114 : decode cX7_init 114 = .ok (.putfield 46, 3) := by decide +kernel
theorem dX7_init_117 : decode cX7_init 117 = .ok (.aload_n 0, 1) := by decide +kernel
theorem dX7_init_118 : decode cX7_init 118 = .ok (.iconst 5, 1) := by decide +kernel
theorem dX7_init_119 : decode cX7_init 119 = .ok (.newarray .int, 2) := by decide +kernel
theorem dX7_init_121 : decode cX7_init 121 = .ok (.putfield 49, 3) := by decide +kernel
theorem dX7_init_124 : decode cX7_init 124 = .ok (.aload_n 0, 1) := by decide +kernel
theorem dX7_init_125 : decode cX7_init 125 = .ok (.bipush 8, 2) := by decide +kernel
theorem dX7_init_127 : decode cX7_init 127 = .ok (.newarray .int, 2) := by decide +kernel
theorem dX7_init_129 : decode cX7_init 129 = .ok (.putfield 52, 3) := by decide +kernel
theorem dX7_init_132 : decode cX7_init 132 = .ok (.aload_n 0, 1) := by decide +kernel
theorem dX7_init_133 : decode cX7_init 133 = .ok (.bipush 8, 2) := by decide +kernel
theorem dX7_init_135 : decode cX7_init 135 = .ok (.newarray .int, 2) := by decide +kernel
theorem dX7_init_137 : decode cX7_init 137 = .ok (.putfield 55, 3) := by decide +kernel
theorem dX7_init_140 : decode cX7_init 140 = .ok (.aload_n 0, 1) := by decide +kernel
theorem dX7_init_141 : decode cX7_init 141 = .ok (.bipush 8, 2) := by decide +kernel
theorem dX7_init_143 : decode cX7_init 143 = .ok (.newarray .int, 2) := by decide +kernel
theorem dX7_init_145 : decode cX7_init 145 = .ok (.putfield 58, 3) := by decide +kernel
theorem dX7_init_148 : decode cX7_init 148 = .ok (.return_, 1) := by decide +kernel
theorem dX7_fails_0 : decode cX7_fails 0 = .ok (.aload_n 0, 1) := by decide +kernel
theorem dX7_fails_1 : decode cX7_fails 1 = .ok (.iload_n 1, 1) := by decide +kernel
theorem dX7_fails_2 : decode cX7_fails 2 = .ok (.putfield 61, 3) := by decide +kernel
theorem dX7_fails_5 : decode cX7_fails 5 = .ok (.bipush (-10), 2) := by decide +kernel
theorem dX7_fails_7 : decode cX7_fails 7 = .ok (.iload_n 1, 1) := by decide +kernel
theorem dX7_fails_8 : decode cX7_fails 8 = .ok (.isub, 1) := by decide +kernel
theorem dX7_fails_9 : decode cX7_fails 9 = .ok (.ireturn, 1) := by decide +kernel
theorem dX7_lost_0 : decode cX7_lost 0 = .ok (.aload_n 0, 1) := by decide +kernel
theorem dX7_lost_1 : decode cX7_lost 1 = .ok (.iload_n 1, 1) := by decide +kernel
theorem dX7_lost_2 : decode cX7_lost 2 = .ok (.putfield 61, 3) := by decide +kernel
theorem dX7_lost_5 : decode cX7_lost 5 = .ok (.ldc2_w 65, 3) := by decide +kernel
theorem dX7_lost_8 : decode cX7_lost 8 = .ok (.lreturn, 1) := by decide +kernel
theorem dX7_within_0 : decode cX7_within 0 = .ok (.iload_n 0, 1) := by decide +kernel
theorem dX7_within_1 : decode cX7_within 1 = .ok (.iload_n 1, 1) := by decide +kernel
theorem dX7_within_2 : decode cX7_within 2 = .ok (.if_icmp .lt 12, 3) := by decide +kernel
theorem dX7_within_5 : decode cX7_within 5 = .ok (.iload_n 0, 1) := by decide +kernel
theorem dX7_within_6 : decode cX7_within 6 = .ok (.iload_n 2, 1) := by decide +kernel
theorem dX7_within_7 : decode cX7_within 7 = .ok (.if_icmp .gt 7, 3) := by decide +kernel
theorem dX7_within_10 : decode cX7_within 10 = .ok (.iconst 1, 1) := by decide +kernel
theorem dX7_within_11 : decode cX7_within 11 = .ok (.goto 4, 3) := by decide +kernel
theorem dX7_within_14 : decode cX7_within 14 = .ok (.iconst 0, 1) := by decide +kernel
theorem dX7_within_15 : decode cX7_within 15 = .ok (.ireturn, 1) := by decide +kernel
set_option maxRecDepth 20000 in
theorem ggX7_isSheet_X7_within : GoodIn wsX7_isSheet wsX7_within := goodIn_r _ [4] (by decide +kernel) (by decide +kernel)
set_option maxRecDepth 20000 in
theorem gX7_isSheet_X7_within : GoodIn wsX7_isSheet (va_wsS RX7 67 yX7_within wsX7_within) := goodIn_app (goodIn_of _ (by decide +kernel)) ggX7_isSheet_X7_within
theorem dX7_isSheet_0 : decode cX7_isSheet 0 = .ok (.iload_n 0, 1) := by decide +kernel
theorem dX7_isSheet_1 : decode cX7_isSheet 1 = .ok (.iconst 0, 1) := by decide +kernel
theorem dX7_isSheet_2 : decode cX7_isSheet 2 = .ok (.iconst 3, 1) := by decide +kernel
theorem dX7_isSheet_3 : decode cX7_isSheet 3 = .ok (.invokestatic 67, 3) := by decide +kernel
theorem dX7_isSheet_6 : decode cX7_isSheet 6 = .ok (.ireturn, 1) := by decide +kernel
set_option maxRecDepth 20000 in
theorem ggX7_isSort_X7_within : GoodIn wsX7_isSort wsX7_within := goodIn_r _ [4] (by decide +kernel) (by decide +kernel)
set_option maxRecDepth 20000 in
theorem gX7_isSort_X7_within : GoodIn wsX7_isSort (va_wsS RX7 67 yX7_within wsX7_within) := goodIn_app (goodIn_of _ (by decide +kernel)) ggX7_isSort_X7_within
theorem dX7_isSort_0 : decode cX7_isSort 0 = .ok (.iload_n 0, 1) := by decide +kernel
theorem dX7_isSort_1 : decode cX7_isSort 1 = .ok (.iconst 0, 1) := by decide +kernel
theorem dX7_isSort_2 : decode cX7_isSort 2 = .ok (.iconst 2, 1) := by decide +kernel
theorem dX7_isSort_3 : decode cX7_isSort 3 = .ok (.invokestatic 67, 3) := by decide +kernel
theorem dX7_isSort_6 : decode cX7_isSort 6 = .ok (.ireturn, 1) := by decide +kernel
theorem dX7_against_0 : decode cX7_against 0 = .ok (.aload_n 0, 1) := by decide +kernel
theorem dX7_against_1 : decode cX7_against 1 = .ok (.getfield 9, 3) := by decide +kernel
theorem dX7_against_4 : decode cX7_against 4 = .ok (.iload_n 1, 1) := by decide +kernel
theorem dX7_against_5 : decode cX7_against 5 = .ok (.iaload, 1) := by decide +kernel
theorem dX7_against_6 : decode cX7_against 6 = .ok (.bipush (-9), 2) := by decide +kernel
theorem dX7_against_8 : decode cX7_against 8 = .ok (.if_icmp .eq 15, 3) := by decide +kernel
theorem dX7_against_11 : decode cX7_against 11 = .ok (.aload_n 0, 1) := by decide +kernel
theorem dX7_against_12 : decode cX7_against 12 = .ok (.getfield 9, 3) := by decide +kernel
theorem dX7_against_15 : decode cX7_against 15 = .ok (.iload_n 1, 1) := by decide +kernel
theorem dX7_against_16 : decode cX7_against 16 = .ok (.iaload, 1) := by decide +kernel
theorem dX7_against_17 : decode cX7_against 17 = .ok (.iload_n 2, 1) := by decide +kernel
theorem dX7_against_18 : decode cX7_against 18 = .ok (.if_icmp .eq 5, 3) := by decide +kernel
theorem dX7_against_21 : decode cX7_against 21 = .ok (.iconst 2, 1) := by decide +kernel
theorem dX7_against_22 : decode cX7_against 22 = .ok (.ireturn, 1) := by decide +kernel
theorem dX7_against_23 : decode cX7_against 23 = .ok (.aload_n 0, 1) := by decide +kernel
theorem dX7_against_24 : decode cX7_against 24 = .ok (.getfield 9, 3) := by decide +kernel
theorem dX7_against_27 : decode cX7_against 27 = .ok (.iload_n 1, 1) := by decide +kernel
theorem dX7_against_28 : decode cX7_against 28 = .ok (.iaload, 1) := by decide +kernel
theorem dX7_against_29 : decode cX7_against 29 = .ok (.bipush (-9), 2) := by decide +kernel
theorem dX7_against_31 : decode cX7_against 31 = .ok (.if_icmp .ne 5, 3) := by decide +kernel
theorem dX7_against_34 : decode cX7_against 34 = .ok (.iconst 1, 1) := by decide +kernel
theorem dX7_against_35 : decode cX7_against 35 = .ok (.ireturn, 1) := by decide +kernel
theorem dX7_against_36 : decode cX7_against 36 = .ok (.iload 4, 2) := by decide +kernel
theorem dX7_against_38 : decode cX7_against 38 = .ok (.ifCond .ge 5, 3) := by decide +kernel
theorem dX7_against_41 : decode cX7_against 41 = .ok (.iconst 4, 1) := by decide +kernel
theorem dX7_against_42 : decode cX7_against 42 = .ok (.ireturn, 1) := by decide +kernel
theorem dX7_against_43 : decode cX7_against 43 = .ok (.iload_n 3, 1) := by decide +kernel
theorem dX7_against_44 : decode cX7_against 44 = .ok (.ifCond .lt 26, 3) := by decide +kernel
theorem dX7_against_47 : decode cX7_against 47 = .ok (.iload_n 3, 1) := by decide +kernel
theorem dX7_against_48 : decode cX7_against 48 = .ok (.aload_n 0, 1) := by decide +kernel
theorem dX7_against_49 : decode cX7_against 49 = .ok (.getfield 13, 3) := by decide +kernel
theorem dX7_against_52 : decode cX7_against 52 = .ok (.iload_n 1, 1) := by decide +kernel
theorem dX7_against_53 : decode cX7_against 53 = .ok (.iaload, 1) := by decide +kernel
theorem dX7_against_54 : decode cX7_against 54 = .ok (.if_icmp .gt 16, 3) := by decide +kernel
theorem dX7_against_57 : decode cX7_against 57 = .ok (.iload 4, 2) := by decide +kernel
theorem dX7_against_59 : decode cX7_against 59 = .ok (.aload_n 0, 1) := by decide +kernel
theorem dX7_against_60 : decode cX7_against 60 = .ok (.getfield 13, 3) := by decide +kernel
theorem dX7_against_63 : decode cX7_against 63 = .ok (.iload_n 1, 1) := by decide +kernel
theorem dX7_against_64 : decode cX7_against 64 = .ok (.iaload, 1) := by decide +kernel
theorem dX7_against_65 : decode cX7_against 65 = .ok (.iload_n 3, 1) := by decide +kernel
theorem dX7_against_66 : decode cX7_against 66 = .ok (.isub, 1) := by decide +kernel
theorem dX7_against_67 : decode cX7_against 67 = .ok (.if_icmp .le 7, 3) := by decide +kernel
theorem dX7_against_70 : decode cX7_against 70 = .ok (.iconst 3, 1) := by decide +kernel
theorem dX7_against_71 : decode cX7_against 71 = .ok (.goto 4, 3) := by decide +kernel
theorem dX7_against_74 : decode cX7_against 74 = .ok (.iconst 0, 1) := by decide +kernel
theorem dX7_against_75 : decode cX7_against 75 = .ok (.ireturn, 1) := by decide +kernel
theorem dX7_isBell_0 : decode cX7_isBell 0 = .ok (.iload_n 1, 1) := by decide +kernel
theorem dX7_isBell_1 : decode cX7_isBell 1 = .ok (.ifCond .lt 15, 3) := by decide +kernel
theorem dX7_isBell_4 : decode cX7_isBell 4 = .ok (.iload_n 1, 1) := by decide +kernel
theorem dX7_isBell_5 : decode cX7_isBell 5 = .ok (.aload_n 0, 1) := by decide +kernel
theorem dX7_isBell_6 : decode cX7_isBell 6 = .ok (.getfield 71, 3) := by decide +kernel
theorem dX7_isBell_9 : decode cX7_isBell 9 = .ok (.if_icmp .ge 7, 3) := by decide +kernel
theorem dX7_isBell_12 : decode cX7_isBell 12 = .ok (.iconst 1, 1) := by decide +kernel
theorem dX7_isBell_13 : decode cX7_isBell 13 = .ok (.goto 4, 3) := by decide +kernel
theorem dX7_isBell_16 : decode cX7_isBell 16 = .ok (.iconst 0, 1) := by decide +kernel
theorem dX7_isBell_17 : decode cX7_isBell 17 = .ok (.ireturn, 1) := by decide +kernel
set_option maxRecDepth 20000 in
theorem ggX7_isDigit_X7_within : GoodIn wsX7_isDigit wsX7_within := goodIn_r _ [4] (by decide +kernel) (by decide +kernel)
set_option maxRecDepth 20000 in
theorem gX7_isDigit_X7_within : GoodIn wsX7_isDigit (va_wsS RX7 67 yX7_within wsX7_within) := goodIn_app (goodIn_of _ (by decide +kernel)) ggX7_isDigit_X7_within
theorem dX7_isDigit_0 : decode cX7_isDigit 0 = .ok (.iload_n 0, 1) := by decide +kernel
theorem dX7_isDigit_1 : decode cX7_isDigit 1 = .ok (.iconst 0, 1) := by decide +kernel
theorem dX7_isDigit_2 : decode cX7_isDigit 2 = .ok (.bipush 9, 2) := by decide +kernel
theorem dX7_isDigit_4 : decode cX7_isDigit 4 = .ok (.invokestatic 67, 3) := by decide +kernel
theorem dX7_isDigit_7 : decode cX7_isDigit 7 = .ok (.ireturn, 1) := by decide +kernel
set_option maxRecDepth 20000 in
theorem ggX7_isMood_X7_within : GoodIn wsX7_isMood wsX7_within := goodIn_r _ [4] (by decide +kernel) (by decide +kernel)
set_option maxRecDepth 20000 in
theorem gX7_isMood_X7_within : GoodIn wsX7_isMood (va_wsS RX7 67 yX7_within wsX7_within) := goodIn_app (goodIn_of _ (by decide +kernel)) ggX7_isMood_X7_within
theorem dX7_isMood_0 : decode cX7_isMood 0 = .ok (.iload_n 0, 1) := by decide +kernel
theorem dX7_isMood_1 : decode cX7_isMood 1 = .ok (.iconst 0, 1) := by decide +kernel
theorem dX7_isMood_2 : decode cX7_isMood 2 = .ok (.iconst 3, 1) := by decide +kernel
theorem dX7_isMood_3 : decode cX7_isMood 3 = .ok (.invokestatic 67, 3) := by decide +kernel
theorem dX7_isMood_6 : decode cX7_isMood 6 = .ok (.ireturn, 1) := by decide +kernel
theorem dX7_isSet_0 : decode cX7_isSet 0 = .ok (.iload_n 1, 1) := by decide +kernel
theorem dX7_isSet_1 : decode cX7_isSet 1 = .ok (.ifCond .lt 17, 3) := by decide +kernel
theorem dX7_isSet_4 : decode cX7_isSet 4 = .ok (.iload_n 1, 1) := by decide +kernel
theorem dX7_isSet_5 : decode cX7_isSet 5 = .ok (.iconst 1, 1) := by decide +kernel
theorem dX7_isSet_6 : decode cX7_isSet 6 = .ok (.aload_n 0, 1) := by decide +kernel
theorem dX7_isSet_7 : decode cX7_isSet 7 = .ok (.getfield 71, 3) := by decide +kernel
theorem dX7_isSet_10 : decode cX7_isSet 10 = .ok (.ishl, 1) := by decide +kernel
theorem dX7_isSet_11 : decode cX7_isSet 11 = .ok (.if_icmp .ge 7, 3) := by decide +kernel
theorem dX7_isSet_14 : decode cX7_isSet 14 = .ok (.iconst 1, 1) := by decide +kernel
theorem dX7_isSet_15 : decode cX7_isSet 15 = .ok (.goto 4, 3) := by decide +kernel
theorem dX7_isSet_18 : decode cX7_isSet 18 = .ok (.iconst 0, 1) := by decide +kernel
theorem dX7_isSet_19 : decode cX7_isSet 19 = .ok (.ireturn, 1) := by decide +kernel
set_option maxRecDepth 20000 in
theorem ggX7_digit_X7_within : GoodIn wsX7_digit wsX7_within := goodIn_r _ [6] (by decide +kernel) (by decide +kernel)
set_option maxRecDepth 20000 in
theorem gX7_digit_X7_within : GoodIn wsX7_digit (va_wsS RX7 67 yX7_within wsX7_within) := goodIn_app (goodIn_of _ (by decide +kernel)) ggX7_digit_X7_within
theorem dX7_digit_0 : decode cX7_digit 0 = .ok (.aload_n 0, 1) := by decide +kernel
theorem dX7_digit_1 : decode cX7_digit 1 = .ok (.getfield 74, 3) := by decide +kernel
theorem dX7_digit_4 : decode cX7_digit 4 = .ok (.iload_n 1, 1) := by decide +kernel
theorem dX7_digit_5 : decode cX7_digit 5 = .ok (.if_icmp .ge 24, 3) := by decide +kernel
theorem dX7_digit_8 : decode cX7_digit 8 = .ok (.aload_n 0, 1) := by decide +kernel
theorem dX7_digit_9 : decode cX7_digit 9 = .ok (.getfield 16, 3) := by decide +kernel
theorem dX7_digit_12 : decode cX7_digit 12 = .ok (.aload_n 0, 1) := by decide +kernel
theorem dX7_digit_13 : decode cX7_digit 13 = .ok (.getfield 74, 3) := by decide +kernel
theorem dX7_digit_16 : decode cX7_digit 16 = .ok (.iaload, 1) := by decide +kernel
theorem dX7_digit_17 : decode cX7_digit 17 = .ok (.bipush 48, 2) := by decide +kernel
theorem dX7_digit_19 : decode cX7_digit 19 = .ok (.bipush 48, 2) := by decide +kernel
theorem dX7_digit_21 : decode cX7_digit 21 = .ok (.iload_n 2, 1) := by decide +kernel
theorem dX7_digit_22 : decode cX7_digit 22 = .ok (.iadd, 1) := by decide +kernel
theorem dX7_digit_23 : decode cX7_digit 23 = .ok (.invokestatic 67, 3) := by decide +kernel
theorem dX7_digit_26 : decode cX7_digit 26 = .ok (.ifCond .ne 6, 3) := by decide +kernel
theorem dX7_digit_29 : decode cX7_digit 29 = .ok (.bipush (-9), 2) := by decide +kernel
theorem dX7_digit_31 : decode cX7_digit 31 = .ok (.ireturn, 1) := by decide +kernel
theorem dX7_digit_32 : decode cX7_digit 32 = .ok (.aload_n 0, 1) := by decide +kernel
theorem dX7_digit_33 : decode cX7_digit 33 = .ok (.dup, 1) := by decide +kernel
theorem dX7_digit_34 : decode cX7_digit 34 = .ok (.getfield 74, 3) := by decide +kernel
theorem dX7_digit_37 : decode cX7_digit 37 = .ok (.iconst 1, 1) := by decide +kernel
theorem dX7_digit_38 : decode cX7_digit 38 = .ok (.iadd, 1) := by decide +kernel
theorem dX7_digit_39 : decode cX7_digit 39 = .ok (.putfield 74, 3) := by decide +kernel
theorem dX7_digit_42 : decode cX7_digit 42 = .ok (.aload_n 0, 1) := by decide +kernel
theorem dX7_digit_43 : decode cX7_digit 43 = .ok (.getfield 16, 3) := by decide +kernel
theorem dX7_digit_46 : decode cX7_digit 46 = .ok (.aload_n 0, 1) := by decide +kernel
theorem dX7_digit_47 : decode cX7_digit 47 = .ok (.getfield 74, 3) := by decide +kernel
theorem dX7_digit_50 : decode cX7_digit 50 = .ok (.iconst 1, 1) := by decide +kernel
theorem dX7_digit_51 : decode cX7_digit 51 = .ok (.isub, 1) := by decide +kernel
theorem dX7_digit_52 : decode cX7_digit 52 = .ok (.iaload, 1) := by decide +kernel
theorem dX7_digit_53 : decode cX7_digit 53 = .ok (.bipush 48, 2) := by decide +kernel
theorem dX7_digit_55 : decode cX7_digit 55 = .ok (.isub, 1) := by decide +kernel
theorem dX7_digit_56 : decode cX7_digit 56 = .ok (.ireturn, 1) := by decide +kernel
theorem dX7_isSign_0 : decode cX7_isSign 0 = .ok (.aload_n 0, 1) := by decide +kernel
theorem dX7_isSign_1 : decode cX7_isSign 1 = .ok (.getfield 74, 3) := by decide +kernel
theorem dX7_isSign_4 : decode cX7_isSign 4 = .ok (.iload_n 1, 1) := by decide +kernel
theorem dX7_isSign_5 : decode cX7_isSign 5 = .ok (.if_icmp .ge 16, 3) := by decide +kernel
theorem dX7_isSign_8 : decode cX7_isSign 8 = .ok (.aload_n 0, 1) := by decide +kernel
theorem dX7_isSign_9 : decode cX7_isSign 9 = .ok (.getfield 16, 3) := by decide +kernel
theorem dX7_isSign_12 : decode cX7_isSign 12 = .ok (.aload_n 0, 1) := by decide +kernel
theorem dX7_isSign_13 : decode cX7_isSign 13 = .ok (.getfield 74, 3) := by decide +kernel
theorem dX7_isSign_16 : decode cX7_isSign 16 = .ok (.iaload, 1) := by decide +kernel
theorem dX7_isSign_17 : decode cX7_isSign 17 = .ok (.iload_n 2, 1) := by decide +kernel
theorem dX7_isSign_18 : decode cX7_isSign 18 = .ok (.if_icmp .eq 5, 3) := by decide +kernel
theorem dX7_isSign_21 : decode cX7_isSign 21 = .ok (.iconst 0, 1) := by decide +kernel
theorem dX7_isSign_22 : decode cX7_isSign 22 = .ok (.ireturn, 1) := by decide +kernel
theorem dX7_isSign_23 : decode cX7_isSign 23 = .ok (.aload_n 0, 1) := by decide +kernel
theorem dX7_isSign_24 : decode cX7_isSign 24 = .ok (.dup, 1) := by decide +kernel
theorem dX7_isSign_25 : decode cX7_isSign 25 = .ok (.getfield 74, 3) := by decide +kernel
theorem dX7_isSign_28 : decode cX7_isSign 28 = .ok (.iconst 1, 1) := by decide +kernel
theorem dX7_isSign_29 : decode cX7_isSign 29 = .ok (.iadd, 1) := by decide +kernel
theorem dX7_isSign_30 : decode cX7_isSign 30 = .ok (.putfield 74, 3) := by decide +kernel
theorem dX7_isSign_33 : decode cX7_isSign 33 = .ok (.iconst 1, 1) := by decide +kernel
theorem dX7_isSign_34 : decode cX7_isSign 34 = .ok (.ireturn, 1) := by decide +kernel
set_option maxRecDepth 20000 in
theorem ggX7_alp_X7_isSheet : GoodIn wsX7_alp wsX7_isSheet := goodIn_r _ [21, 22, 23, 20, 24] (by decide +kernel) (by decide +kernel)
set_option maxRecDepth 20000 in
theorem gX7_alp_X7_isSheet : GoodIn wsX7_alp (va_wsS RX7 77 yX7_isSheet wsX7_isSheet) := goodIn_app (goodIn_of _ (by decide +kernel)) ggX7_alp_X7_isSheet
set_option maxRecDepth 20000 in
theorem ggX7_alp_X7_isSort : GoodIn wsX7_alp wsX7_isSort := goodIn_r _ [27, 22, 23, 20, 24] (by decide +kernel) (by decide +kernel)
set_option maxRecDepth 20000 in
theorem gX7_alp_X7_isSort : GoodIn wsX7_alp (va_wsS RX7 81 yX7_isSort wsX7_isSort) := goodIn_app (goodIn_of _ (by decide +kernel)) ggX7_alp_X7_isSort
set_option maxRecDepth 20000 in
theorem ggX7_alp_X7_against : GoodIn wsX7_alp wsX7_against := goodIn_r _ [31, 32, 33, 55, 56, 57, 58, 59, 60, 61, 62, 63, 64, 65, 66, 67, 68, 69, 70, 71, 72, 73, 74, 75, 76, 77, 78, 79, 80, 81, 82] (by decide +kernel) (by decide +kernel)
set_option maxRecDepth 20000 in
theorem gX7_alp_X7_against : GoodIn wsX7_alp (wsV RX7 84 RX7 yX7_against wsX7_against) := goodIn_app (goodIn_of _ (by decide +kernel)) ggX7_alp_X7_against
set_option maxRecDepth 20000 in
theorem ggX7_alp_X7_fails : GoodIn wsX7_alp wsX7_fails := goodIn_r _ [37, 1, 55, 56, 57, 58, 59, 60, 61, 62, 63, 64, 65, 66, 67, 68, 69, 70, 71, 72, 73, 74, 75, 76, 77, 78, 79, 80, 81, 82] (by decide +kernel) (by decide +kernel)
set_option maxRecDepth 20000 in
theorem gX7_alp_X7_fails : GoodIn wsX7_alp (wsV RX7 88 RX7 yX7_fails wsX7_fails) := goodIn_app (goodIn_of _ (by decide +kernel)) ggX7_alp_X7_fails
set_option maxRecDepth 20000 in
theorem ggX7_alp_X7_readAlp : GoodIn wsX7_alp wsX7_readAlp := goodIn_r _ [41, 7, 3, 5, 2, 42, 43, 44, 20, 45, 46, 47, 48, 49, 50, 22, 23, 24, 51, 52, 53, 54, 10, 12, 14, 16, 55, 56, 57, 58, 59, 60, 61, 62, 63, 64, 65, 66, 67, 68, 69, 70, 71, 72, 73, 74, 75, 76, 77, 78, 79, 80, 81, 82] (by decide +kernel) (by decide +kernel)
set_option maxRecDepth 20000 in
theorem gX7_alp_X7_readAlp : GoodIn wsX7_alp (wsV RX7 92 RX7 yX7_readAlp wsX7_readAlp) := goodIn_app (goodIn_of _ (by decide +kernel)) ggX7_alp_X7_readAlp
theorem dX7_alp_0 : decode cX7_alp 0 = .ok (.aload_n 0, 1) := by decide +kernel
theorem dX7_alp_1 : decode cX7_alp 1 = .ok (.iconst 0, 1) := by decide +kernel
theorem dX7_alp_2 : decode cX7_alp 2 = .ok (.putfield 61, 3) := by decide +kernel
theorem dX7_alp_5 : decode cX7_alp 5 = .ok (.iload_n 1, 1) := by decide +kernel
theorem dX7_alp_6 : decode cX7_alp 6 = .ok (.invokestatic 77, 3) := by decide +kernel
theorem dX7_alp_9 : decode cX7_alp 9 = .ok (.ifCond .ne 5, 3) := by decide +kernel
theorem dX7_alp_12 : decode cX7_alp 12 = .ok (.iconst (-1), 1) := by decide +kernel
theorem dX7_alp_13 : decode cX7_alp 13 = .ok (.ireturn, 1) := by decide +kernel
theorem dX7_alp_14 : decode cX7_alp 14 = .ok (.iload_n 2, 1) := by decide +kernel
theorem dX7_alp_15 : decode cX7_alp 15 = .ok (.invokestatic 81, 3) := by decide +kernel
theorem dX7_alp_18 : decode cX7_alp 18 = .ok (.ifCond .ne 6, 3) := by decide +kernel
theorem dX7_alp_21 : decode cX7_alp 21 = .ok (.bipush (-2), 2) := by decide +kernel
theorem dX7_alp_23 : decode cX7_alp 23 = .ok (.ireturn, 1) := by decide +kernel
theorem dX7_alp_24 : decode cX7_alp 24 = .ok (.aload_n 0, 1) := by decide +kernel
theorem dX7_alp_25 : decode cX7_alp 25 = .ok (.iload_n 1, 1) := by decide +kernel
theorem dX7_alp_26 : decode cX7_alp 26 = .ok (.iload_n 2, 1) := by decide +kernel
theorem dX7_alp_27 : decode cX7_alp 27 = .ok (.iload_n 3, 1) := by decide +kernel
theorem dX7_alp_28 : decode cX7_alp 28 = .ok (.iload 4, 2) := by decide +kernel
theorem dX7_alp_30 : decode cX7_alp 30 = .ok (.invokevirtual 84, 3) := by decide +kernel
theorem dX7_alp_33 : decode cX7_alp 33 = .ok (.istore 5, 2) := by decide +kernel
theorem dX7_alp_35 : decode cX7_alp 35 = .ok (.iload 5, 2) := by decide +kernel
theorem dX7_alp_37 : decode cX7_alp 37 = .ok (.ifCond .eq 10, 3) := by decide +kernel
theorem dX7_alp_40 : decode cX7_alp 40 = .ok (.aload_n 0, 1) := by decide +kernel
theorem dX7_alp_41 : decode cX7_alp 41 = .ok (.iload 5, 2) := by decide +kernel
theorem dX7_alp_43 : decode cX7_alp 43 = .ok (.invokevirtual 88, 3) := by decide +kernel
theorem dX7_alp_46 : decode cX7_alp 46 = .ok (.ireturn, 1) := by decide +kernel
theorem dX7_alp_47 : decode cX7_alp 47 = .ok (.bipush 60, 2) := by decide +kernel
theorem dX7_alp_49 : decode cX7_alp 49 = .ok (.iload_n 1, 1) := by decide +kernel
theorem dX7_alp_50 : decode cX7_alp 50 = .ok (.imul, 1) := by decide +kernel
theorem dX7_alp_51 : decode cX7_alp 51 = .ok (.iload_n 3, 1) := by decide +kernel
theorem dX7_alp_52 : decode cX7_alp 52 = .ok (.iadd, 1) := by decide +kernel
theorem dX7_alp_53 : decode cX7_alp 53 = .ok (.istore 6, 2) := by decide +kernel
theorem dX7_alp_55 : decode cX7_alp 55 = .ok (.aload_n 0, 1) := by decide +kernel
theorem dX7_alp_56 : decode cX7_alp 56 = .ok (.iload 6, 2) := by decide +kernel
theorem dX7_alp_58 : decode cX7_alp 58 = .ok (.putfield 74, 3) := by decide +kernel
theorem dX7_alp_61 : decode cX7_alp 61 = .ok (.aload_n 0, 1) := by decide +kernel
theorem dX7_alp_62 : decode cX7_alp 62 = .ok (.iload 6, 2) := by decide +kernel
theorem dX7_alp_64 : decode cX7_alp 64 = .ok (.iload 4, 2) := by decide +kernel
theorem dX7_alp_66 : decode cX7_alp 66 = .ok (.iadd, 1) := by decide +kernel
theorem dX7_alp_67 : decode cX7_alp 67 = .ok (.invokevirtual 92, 3) := by decide +kernel
theorem dX7_alp_70 : decode cX7_alp 70 = .ok (.ifCond .ne 14, 3) := by decide +kernel
theorem dX7_alp_73 : decode cX7_alp 73 = .ok (.bipush (-100), 2) := by decide +kernel
theorem dX7_alp_75 : decode cX7_alp 75 = .ok (.aload_n 0, 1) := by decide +kernel
theorem dX7_alp_76 : decode cX7_alp 76 = .ok (.getfield 74, 3) := by decide +kernel
theorem dX7_alp_79 : decode cX7_alp 79 = .ok (.iload 6, 2) := by decide +kernel
theorem dX7_alp_81 : decode cX7_alp 81 = .ok (.isub, 1) := by decide +kernel
theorem dX7_alp_82 : decode cX7_alp 82 = .ok (.isub, 1) := by decide +kernel
theorem dX7_alp_83 : decode cX7_alp 83 = .ok (.ireturn, 1) := by decide +kernel
theorem dX7_alp_84 : decode cX7_alp 84 = .ok (.aload_n 0, 1) := by decide +kernel
theorem dX7_alp_85 : decode cX7_alp 85 = .ok (.aload_n 0, 1) := by decide +kernel
theorem dX7_alp_86 : decode cX7_alp 86 = .ok (.getfield 95, 3) := by decide +kernel
theorem dX7_alp_89 : decode cX7_alp 89 = .ok (.putfield 98, 3) := by decide +kernel
theorem dX7_alp_92 : decode cX7_alp 92 = .ok (.aload_n 0, 1) := by decide +kernel
theorem dX7_alp_93 : decode cX7_alp 93 = .ok (.aload_n 0, 1) := by decide +kernel
theorem dX7_alp_94 : decode cX7_alp 94 = .ok (.getfield 101, 3) := by decide +kernel
theorem dX7_alp_97 : decode cX7_alp 97 = .ok (.putfield 104, 3) := by decide +kernel
theorem dX7_alp_100 : decode cX7_alp 100 = .ok (.aload_n 0, 1) := by decide +kernel
theorem dX7_alp_101 : decode cX7_alp 101 = .ok (.aload_n 0, 1) := by decide +kernel
theorem dX7_alp_102 : decode cX7_alp 102 = .ok (.getfield 107, 3) := by decide +kernel
theorem dX7_alp_105 : decode cX7_alp 105 = .ok (.putfield 71, 3) := by decide +kernel
theorem dX7_alp_108 : decode cX7_alp 108 = .ok (.iconst 0, 1) := by decide +kernel
theorem dX7_alp_109 : decode cX7_alp 109 = .ok (.istore 7, 2) := by decide +kernel
theorem dX7_alp_111 : decode cX7_alp 111 = .ok (.iload 7, 2) := by decide +kernel
theorem dX7_alp_113 : decode cX7_alp 113 = .ok (.aload_n 0, 1) := by decide +kernel
theorem dX7_alp_114 : decode cX7_alp 114 = .ok (.getfield 71, 3) := by decide +kernel
theorem dX7_alp_117 : decode cX7_alp 117 = .ok (.if_icmp .ge 65, 3) := by decide +kernel
theorem dX7_alp_120 : decode cX7_alp 120 = .ok (.aload_n 0, 1) := by decide +kernel
theorem dX7_alp_121 : decode cX7_alp 121 = .ok (.getfield 19, 3) := by decide +kernel
theorem dX7_alp_124 : decode cX7_alp 124 = .ok (.iload 7, 2) := by decide +kernel
theorem dX7_alp_126 : decode cX7_alp 126 = .ok (.aload_n 0, 1) := by decide +kernel
theorem dX7_alp_127 : decode cX7_alp 127 = .ok (.getfield 31, 3) := by decide +kernel
theorem dX7_alp_130 : decode cX7_alp 130 = .ok (.iload 7, 2) := by decide +kernel
theorem dX7_alp_132 : decode cX7_alp 132 = .ok (.iaload, 1) := by decide +kernel
theorem dX7_alp_133 : decode cX7_alp 133 = .ok (.iastore, 1) := by decide +kernel
theorem dX7_alp_134 : decode cX7_alp 134 = .ok (.aload_n 0, 1) := by decide +kernel
theorem dX7_alp_135 : decode cX7_alp 135 = .ok (.getfield 22, 3) := by decide +kernel
theorem dX7_alp_138 : decode cX7_alp 138 = .ok (.iload 7, 2) := by decide +kernel
theorem dX7_alp_140 : decode cX7_alp 140 = .ok (.aload_n 0, 1) := by decide +kernel
theorem dX7_alp_141 : decode cX7_alp 141 = .ok (.getfield 34, 3) := by decide +kernel
theorem dX7_alp_144 : decode cX7_alp 144 = .ok (.iload 7, 2) := by decide +kernel
theorem dX7_alp_146 : decode cX7_alp 146 = .ok (.iaload, 1) := by decide +kernel
theorem dX7_alp_147 : decode cX7_alp 147 = .ok (.iastore, 1) := by decide +kernel
theorem dX7_alp_148 : decode cX7_alp 148 = .ok (.aload_n 0, 1) := by decide +kernel
theorem dX7_alp_149 : decode cX7_alp 149 = .ok (.getfield 25, 3) := by decide +kernel
theorem dX7_alp_152 : decode cX7_alp 152 = .ok (.iload 7, 2) := by decide +kernel
theorem dX7_alp_154 : decode cX7_alp 154 = .ok (.aload_n 0, 1) := by decide +kernel
theorem dX7_alp_155 : decode cX7_alp 155 = .ok (.getfield 37, 3) := by decide +kernel
theorem dX7_alp_158 : decode cX7_alp 158 = .ok (.iload 7, 2) := by decide +kernel
theorem dX7_alp_160 : decode cX7_alp 160 = .ok (.iaload, 1) := by decide +kernel
theorem dX7_alp_161 : decode cX7_alp 161 = .ok (.iastore, 1) := by decide +kernel
theorem dX7_alp_162 : decode cX7_alp 162 = .ok (.aload_n 0, 1) := by decide +kernel
theorem dX7_alp_163 : decode cX7_alp 163 = .ok (.getfield 28, 3) := by decide +kernel
theorem dX7_alp_166 : decode cX7_alp 166 = .ok (.iload 7, 2) := by decide +kernel
theorem dX7_alp_168 : decode cX7_alp 168 = .ok (.aload_n 0, 1) := by decide +kernel
theorem dX7_alp_169 : decode cX7_alp 169 = .ok (.getfield 40, 3) := by decide +kernel
theorem dX7_alp_172 : decode cX7_alp 172 = .ok (.iload 7, 2) := by decide +kernel
theorem dX7_alp_174 : decode cX7_alp 174 = .ok (.iaload, 1) := by decide +kernel
theorem dX7_alp_175 : decode cX7_alp 175 = .ok (.iastore, 1) := by decide +kernel
theorem dX7_alp_176 : decode cX7_alp 176 = .ok (.iinc 7 1, 3) := by decide +kernel
theorem dX7_alp_179 : decode cX7_alp 179 = .ok (.goto (-68), 3) := by decide +kernel
theorem dX7_alp_182 : decode cX7_alp 182 = .ok (.aload_n 0, 1) := by decide +kernel
theorem dX7_alp_183 : decode cX7_alp 183 = .ok (.iconst 0, 1) := by decide +kernel
theorem dX7_alp_184 : decode cX7_alp 184 = .ok (.putfield 110, 3) := by decide +kernel
theorem dX7_alp_187 : decode cX7_alp 187 = .ok (.aload_n 0, 1) := by decide +kernel
theorem dX7_alp_188 : decode cX7_alp 188 = .ok (.getfield 71, 3) := by decide +kernel
theorem dX7_alp_191 : decode cX7_alp 191 = .ok (.ireturn, 1) := by decide +kernel
set_option maxRecDepth 20000 in
theorem ggX7_readAlp_X7_isSign : GoodIn wsX7_readAlp wsX7_isSign := goodIn_r _ [9, 4, 10, 26, 27, 28, 29, 30, 31, 32, 33, 34, 35, 36, 37, 38, 39, 40, 41, 42, 43, 44, 45, 46, 47, 48, 49, 50, 51, 52, 53] (by decide +kernel) (by decide +kernel)
set_option maxRecDepth 20000 in
theorem gX7_readAlp_X7_isSign : GoodIn wsX7_readAlp (wsV RX7 113 RX7 yX7_isSign wsX7_isSign) := goodIn_app (goodIn_of _ (by decide +kernel)) ggX7_readAlp_X7_isSign
set_option maxRecDepth 20000 in
theorem ggX7_readAlp_X7_digit : GoodIn wsX7_readAlp wsX7_digit := goodIn_r _ [14, 4, 10, 15, 16, 8, 17, 26, 27, 28, 29, 30, 31, 32, 33, 34, 35, 36, 37, 38, 39, 40, 41, 42, 43, 44, 45, 46, 47, 48, 49, 50, 51, 52, 53] (by decide +kernel) (by decide +kernel)
set_option maxRecDepth 20000 in
theorem gX7_readAlp_X7_digit : GoodIn wsX7_readAlp (wsV RX7 117 RX7 yX7_digit wsX7_digit) := goodIn_app (goodIn_of _ (by decide +kernel)) ggX7_readAlp_X7_digit
set_option maxRecDepth 20000 in
theorem ggX7_readAlp_X7_readBell : GoodIn wsX7_readAlp wsX7_readBell := goodIn_r _ [21, 4, 10, 22, 1, 23, 24, 25, 11, 12, 13, 8, 14, 15, 16, 17, 26, 27, 28, 29, 30, 31, 32, 33, 34, 35, 36, 37, 38, 39, 40, 41, 42, 43, 44, 45, 46, 47, 48, 49, 50, 51, 52, 53] (by decide +kernel) (by decide +kernel)
set_option maxRecDepth 20000 in
theorem gX7_readAlp_X7_readBell : GoodIn wsX7_readAlp (wsV RX7 121 RX7 yX7_readBell wsX7_readBell) := goodIn_app (goodIn_of _ (by decide +kernel)) ggX7_readAlp_X7_readBell
theorem dX7_readAlp_0 : decode cX7_readAlp 0 = .ok (.aload_n 0, 1) := by decide +kernel
theorem dX7_readAlp_1 : decode cX7_readAlp 1 = .ok (.iconst 0, 1) := by decide +kernel
theorem dX7_readAlp_2 : decode cX7_readAlp 2 = .ok (.putfield 107, 3) := by decide +kernel
theorem dX7_readAlp_5 : decode cX7_readAlp 5 = .ok (.aload_n 0, 1) := by decide +kernel
theorem dX7_readAlp_6 : decode cX7_readAlp 6 = .ok (.iload_n 1, 1) := by decide +kernel
theorem dX7_readAlp_7 : decode cX7_readAlp 7 = .ok (.bipush 98, 2) := by decide +kernel
theorem dX7_readAlp_9 : decode cX7_readAlp 9 = .ok (.invokevirtual 113, 3) := by decide +kernel
theorem dX7_readAlp_12 : decode cX7_readAlp 12 = .ok (.ifCond .ne 5, 3) := by decide +kernel
theorem dX7_readAlp_15 : decode cX7_readAlp 15 = .ok (.iconst 0, 1) := by decide +kernel
theorem dX7_readAlp_16 : decode cX7_readAlp 16 = .ok (.ireturn, 1) := by decide +kernel
theorem dX7_readAlp_17 : decode cX7_readAlp 17 = .ok (.aload_n 0, 1) := by decide +kernel
theorem dX7_readAlp_18 : decode cX7_readAlp 18 = .ok (.aload_n 0, 1) := by decide +kernel
theorem dX7_readAlp_19 : decode cX7_readAlp 19 = .ok (.iload_n 1, 1) := by decide +kernel
theorem dX7_readAlp_20 : decode cX7_readAlp 20 = .ok (.iconst 2, 1) := by decide +kernel
theorem dX7_readAlp_21 : decode cX7_readAlp 21 = .ok (.invokevirtual 117, 3) := by decide +kernel
theorem dX7_readAlp_24 : decode cX7_readAlp 24 = .ok (.putfield 95, 3) := by decide +kernel
theorem dX7_readAlp_27 : decode cX7_readAlp 27 = .ok (.aload_n 0, 1) := by decide +kernel
theorem dX7_readAlp_28 : decode cX7_readAlp 28 = .ok (.getfield 95, 3) := by decide +kernel
theorem dX7_readAlp_31 : decode cX7_readAlp 31 = .ok (.bipush (-9), 2) := by decide +kernel
theorem dX7_readAlp_33 : decode cX7_readAlp 33 = .ok (.if_icmp .ne 5, 3) := by decide +kernel
theorem dX7_readAlp_36 : decode cX7_readAlp 36 = .ok (.iconst 0, 1) := by decide +kernel
theorem dX7_readAlp_37 : decode cX7_readAlp 37 = .ok (.ireturn, 1) := by decide +kernel
theorem dX7_readAlp_38 : decode cX7_readAlp 38 = .ok (.aload_n 0, 1) := by decide +kernel
theorem dX7_readAlp_39 : decode cX7_readAlp 39 = .ok (.aload_n 0, 1) := by decide +kernel
theorem dX7_readAlp_40 : decode cX7_readAlp 40 = .ok (.iload_n 1, 1) := by decide +kernel
theorem dX7_readAlp_41 : decode cX7_readAlp 41 = .ok (.bipush 9, 2) := by decide +kernel
theorem dX7_readAlp_43 : decode cX7_readAlp 43 = .ok (.invokevirtual 117, 3) := by decide +kernel
theorem dX7_readAlp_46 : decode cX7_readAlp 46 = .ok (.putfield 101, 3) := by decide +kernel
theorem dX7_readAlp_49 : decode cX7_readAlp 49 = .ok (.aload_n 0, 1) := by decide +kernel
theorem dX7_readAlp_50 : decode cX7_readAlp 50 = .ok (.getfield 101, 3) := by decide +kernel
theorem dX7_readAlp_53 : decode cX7_readAlp 53 = .ok (.bipush (-9), 2) := by decide +kernel
theorem dX7_readAlp_55 : decode cX7_readAlp 55 = .ok (.if_icmp .ne 5, 3) := by decide +kernel
theorem dX7_readAlp_58 : decode cX7_readAlp 58 = .ok (.iconst 0, 1) := by decide +kernel
theorem dX7_readAlp_59 : decode cX7_readAlp 59 = .ok (.ireturn, 1) := by decide +kernel
theorem dX7_readAlp_60 : decode cX7_readAlp 60 = .ok (.aload_n 0, 1) := by decide +kernel
theorem dX7_readAlp_61 : decode cX7_readAlp 61 = .ok (.getfield 107, 3) := by decide +kernel
theorem dX7_readAlp_64 : decode cX7_readAlp 64 = .ok (.ifCond .eq 19, 3) := by decide +kernel
theorem dX7_readAlp_67 : decode cX7_readAlp 67 = .ok (.aload_n 0, 1) := by decide +kernel
theorem dX7_readAlp_68 : decode cX7_readAlp 68 = .ok (.getfield 107, 3) := by decide +kernel
theorem dX7_readAlp_71 : decode cX7_readAlp 71 = .ok (.iconst 5, 1) := by decide +kernel
theorem dX7_readAlp_72 : decode cX7_readAlp 72 = .ok (.if_icmp .ge 31, 3) := by decide +kernel
theorem dX7_readAlp_75 : decode cX7_readAlp 75 = .ok (.aload_n 0, 1) := by decide +kernel
theorem dX7_readAlp_76 : decode cX7_readAlp 76 = .ok (.getfield 74, 3) := by decide +kernel
theorem dX7_readAlp_79 : decode cX7_readAlp 79 = .ok (.iload_n 1, 1) := by decide +kernel
theorem dX7_readAlp_80 : decode cX7_readAlp 80 = .ok (.if_icmp .ge 23, 3) := by decide +kernel
theorem dX7_readAlp_83 : decode cX7_readAlp 83 = .ok (.aload_n 0, 1) := by decide +kernel
theorem dX7_readAlp_84 : decode cX7_readAlp 84 = .ok (.iload_n 1, 1) := by decide +kernel
theorem dX7_readAlp_85 : decode cX7_readAlp 85 = .ok (.bipush 59, 2) := by decide +kernel
theorem dX7_readAlp_87 : decode cX7_readAlp 87 = .ok (.invokevirtual 113, 3) := by decide +kernel
theorem dX7_readAlp_90 : decode cX7_readAlp 90 = .ok (.ifCond .eq 11, 3) := by decide +kernel
theorem dX7_readAlp_93 : decode cX7_readAlp 93 = .ok (.aload_n 0, 1) := by decide +kernel
theorem dX7_readAlp_94 : decode cX7_readAlp 94 = .ok (.iload_n 1, 1) := by decide +kernel
theorem dX7_readAlp_95 : decode cX7_readAlp 95 = .ok (.invokevirtual 121, 3) := by decide +kernel
theorem dX7_readAlp_98 : decode cX7_readAlp 98 = .ok (.ifCond .ne (-38), 3) := by decide +kernel
theorem dX7_readAlp_101 : decode cX7_readAlp 101 = .ok (.iconst 0, 1) := by decide +kernel
theorem dX7_readAlp_102 : decode cX7_readAlp 102 = .ok (.ireturn, 1) := by decide +kernel
theorem dX7_readAlp_103 : decode cX7_readAlp 103 = .ok (.aload_n 0, 1) := by decide +kernel
theorem dX7_readAlp_104 : decode cX7_readAlp 104 = .ok (.getfield 74, 3) := by decide +kernel
theorem dX7_readAlp_107 : decode cX7_readAlp 107 = .ok (.iload_n 1, 1) := by decide +kernel
theorem dX7_readAlp_108 : decode cX7_readAlp 108 = .ok (.if_icmp .ne 7, 3) := by decide +kernel
theorem dX7_readAlp_111 : decode cX7_readAlp 111 = .ok (.iconst 1, 1) := by decide +kernel
theorem dX7_readAlp_112 : decode cX7_readAlp 112 = .ok (.goto 4, 3) := by decide +kernel
theorem dX7_readAlp_115 : decode cX7_readAlp 115 = .ok (.iconst 0, 1) := by decide +kernel
theorem dX7_readAlp_116 : decode cX7_readAlp 116 = .ok (.ireturn, 1) := by decide +kernel
set_option maxRecDepth 20000 in
theorem ggX7_readBell_X7_digit : GoodIn wsX7_readBell wsX7_digit := goodIn_r _ [12, 1, 2, 13, 14, 11, 15, 16, 17, 18, 19, 20, 21, 22, 23, 24, 25, 26, 27, 28, 29, 30, 31, 32, 33, 34, 35, 36, 37, 38, 39, 40, 41, 42, 43] (by decide +kernel) (by decide +kernel)
set_option maxRecDepth 20000 in
theorem gX7_readBell_X7_digit : GoodIn wsX7_readBell (wsV RX7 117 RX7 yX7_digit wsX7_digit) := goodIn_app (goodIn_of _ (by decide +kernel)) ggX7_readBell_X7_digit
theorem dX7_readBell_0 : decode cX7_readBell 0 = .ok (.aload_n 0, 1) := by decide +kernel
theorem dX7_readBell_1 : decode cX7_readBell 1 = .ok (.getfield 74, 3) := by decide +kernel
theorem dX7_readBell_4 : decode cX7_readBell 4 = .ok (.iload_n 1, 1) := by decide +kernel
theorem dX7_readBell_5 : decode cX7_readBell 5 = .ok (.if_icmp .ge 15, 3) := by decide +kernel
theorem dX7_readBell_8 : decode cX7_readBell 8 = .ok (.aload_n 0, 1) := by decide +kernel
theorem dX7_readBell_9 : decode cX7_readBell 9 = .ok (.getfield 16, 3) := by decide +kernel
theorem dX7_readBell_12 : decode cX7_readBell 12 = .ok (.aload_n 0, 1) := by decide +kernel
theorem dX7_readBell_13 : decode cX7_readBell 13 = .ok (.getfield 74, 3) := by decide +kernel
theorem dX7_readBell_16 : decode cX7_readBell 16 = .ok (.iaload, 1) := by decide +kernel
theorem dX7_readBell_17 : decode cX7_readBell 17 = .ok (.goto 4, 3) := by decide +kernel
theorem dX7_readBell_20 : decode cX7_readBell 20 = .ok (.iconst 0, 1) := by decide +kernel
theorem dX7_readBell_21 : decode cX7_readBell 21 = .ok (.istore_n 2, 1) := by decide +kernel
theorem dX7_readBell_22 : decode cX7_readBell 22 = .ok (.aload_n 0, 1) := by decide +kernel
theorem dX7_readBell_23 : decode cX7_readBell 23 = .ok (.getfield 31, 3) := by decide +kernel
theorem dX7_readBell_26 : decode cX7_readBell 26 = .ok (.aload_n 0, 1) := by decide +kernel
theorem dX7_readBell_27 : decode cX7_readBell 27 = .ok (.getfield 107, 3) := by decide +kernel
theorem dX7_readBell_30 : decode cX7_readBell 30 = .ok (.iload_n 2, 1) := by decide +kernel
theorem dX7_readBell_31 : decode cX7_readBell 31 = .ok (.bipush 112, 2) := by decide +kernel
theorem dX7_readBell_33 : decode cX7_readBell 33 = .ok (.if_icmp .ne 7, 3) := by decide +kernel
theorem dX7_readBell_36 : decode cX7_readBell 36 = .ok (.iconst 0, 1) := by decide +kernel
theorem dX7_readBell_37 : decode cX7_readBell 37 = .ok (.goto 25, 3) := by decide +kernel
theorem dX7_readBell_40 : decode cX7_readBell 40 = .ok (.iload_n 2, 1) := by decide +kernel
theorem dX7_readBell_41 : decode cX7_readBell 41 = .ok (.bipush 107, 2) := by decide +kernel
theorem dX7_readBell_43 : decode cX7_readBell 43 = .ok (.if_icmp .ne 7, 3) := by decide +kernel
theorem dX7_readBell_46 : decode cX7_readBell 46 = .ok (.iconst 1, 1) := by decide +kernel
theorem dX7_readBell_47 : decode cX7_readBell 47 = .ok (.goto 15, 3) := by decide +kernel
theorem dX7_readBell_50 : decode cX7_readBell 50 = .ok (.iload_n 2, 1) := by decide +kernel
theorem dX7_readBell_51 : decode cX7_readBell 51 = .ok (.bipush 104, 2) := by decide +kernel
theorem dX7_readBell_53 : decode cX7_readBell 53 = .ok (.if_icmp .ne 7, 3) := by decide +kernel
theorem dX7_readBell_56 : decode cX7_readBell 56 = .ok (.iconst 2, 1) := by decide +kernel
theorem dX7_readBell_57 : decode cX7_readBell 57 = .ok (.goto 5, 3) := by decide +kernel
theorem dX7_readBell_60 : decode cX7_readBell 60 = .ok (.bipush (-9), 2) := by decide +kernel
theorem dX7_readBell_62 : decode cX7_readBell 62 = .ok (.iastore, 1) := by decide +kernel
theorem dX7_readBell_63 : decode cX7_readBell 63 = .ok (.aload_n 0, 1) := by decide +kernel
theorem dX7_readBell_64 : decode cX7_readBell 64 = .ok (.getfield 31, 3) := by decide +kernel
theorem dX7_readBell_67 : decode cX7_readBell 67 = .ok (.aload_n 0, 1) := by decide +kernel
theorem dX7_readBell_68 : decode cX7_readBell 68 = .ok (.getfield 107, 3) := by decide +kernel
theorem dX7_readBell_71 : decode cX7_readBell 71 = .ok (.iaload, 1) := by decide +kernel
theorem dX7_readBell_72 : decode cX7_readBell 72 = .ok (.bipush (-9), 2) := by decide +kernel
theorem dX7_readBell_74 : decode cX7_readBell 74 = .ok (.if_icmp .ne 5, 3) := by decide +kernel
theorem dX7_readBell_77 : decode cX7_readBell 77 = .ok (.iconst 0, 1) := by decide +kernel
theorem dX7_readBell_78 : decode cX7_readBell 78 = .ok (.ireturn, 1) := by decide +kernel
theorem dX7_readBell_79 : decode cX7_readBell 79 = .ok (.aload_n 0, 1) := by decide +kernel
theorem dX7_readBell_80 : decode cX7_readBell 80 = .ok (.dup, 1) := by decide +kernel
theorem dX7_readBell_81 : decode cX7_readBell 81 = .ok (.getfield 74, 3) := by decide +kernel
theorem dX7_readBell_84 : decode cX7_readBell 84 = .ok (.iconst 1, 1) := by decide +kernel
theorem dX7_readBell_85 : decode cX7_readBell 85 = .ok (.iadd, 1) := by decide +kernel
theorem dX7_readBell_86 : decode cX7_readBell 86 = .ok (.putfield 74, 3) := by decide +kernel
theorem dX7_readBell_89 : decode cX7_readBell 89 = .ok (.aload_n 0, 1) := by decide +kernel
theorem dX7_readBell_90 : decode cX7_readBell 90 = .ok (.getfield 34, 3) := by decide +kernel
theorem dX7_readBell_93 : decode cX7_readBell 93 = .ok (.aload_n 0, 1) := by decide +kernel
theorem dX7_readBell_94 : decode cX7_readBell 94 = .ok (.getfield 107, 3) := by decide +kernel
theorem dX7_readBell_97 : decode cX7_readBell 97 = .ok (.aload_n 0, 1) := by decide +kernel
theorem dX7_readBell_98 : decode cX7_readBell 98 = .ok (.iload_n 1, 1) := by decide +kernel
theorem dX7_readBell_99 : decode cX7_readBell 99 = .ok (.bipush 9, 2) := by decide +kernel
theorem dX7_readBell_101 : decode cX7_readBell 101 = .ok (.invokevirtual 117, 3) := by decide +kernel
theorem dX7_readBell_104 : decode cX7_readBell 104 = .ok (.iastore, 1) := by decide +kernel
theorem dX7_readBell_105 : decode cX7_readBell 105 = .ok (.aload_n 0, 1) := by decide +kernel
theorem dX7_readBell_106 : decode cX7_readBell 106 = .ok (.getfield 34, 3) := by decide +kernel
theorem dX7_readBell_109 : decode cX7_readBell 109 = .ok (.aload_n 0, 1) := by decide +kernel
theorem dX7_readBell_110 : decode cX7_readBell 110 = .ok (.getfield 107, 3) := by decide +kernel
theorem dX7_readBell_113 : decode cX7_readBell 113 = .ok (.iaload, 1) := by decide +kernel
theorem dX7_readBell_114 : decode cX7_readBell 114 = .ok (.bipush (-9), 2) := by decide +kernel
theorem dX7_readBell_116 : decode cX7_readBell 116 = .ok (.if_icmp .ne 5, 3) := by decide +kernel
theorem dX7_readBell_119 : decode cX7_readBell 119 = .ok (.iconst 0, 1) := by decide +kernel
theorem dX7_readBell_120 : decode cX7_readBell 120 = .ok (.ireturn, 1) := by decide +kernel
theorem dX7_readBell_121 : decode cX7_readBell 121 = .ok (.aload_n 0, 1) := by decide +kernel
theorem dX7_readBell_122 : decode cX7_readBell 122 = .ok (.getfield 37, 3) := by decide +kernel
theorem dX7_readBell_125 : decode cX7_readBell 125 = .ok (.aload_n 0, 1) := by decide +kernel
theorem dX7_readBell_126 : decode cX7_readBell 126 = .ok (.getfield 107, 3) := by decide +kernel
theorem dX7_readBell_129 : decode cX7_readBell 129 = .ok (.aload_n 0, 1) := by decide +kernel
theorem dX7_readBell_130 : decode cX7_readBell 130 = .ok (.iload_n 1, 1) := by decide +kernel
theorem dX7_readBell_131 : decode cX7_readBell 131 = .ok (.bipush 9, 2) := by decide +kernel
theorem dX7_readBell_133 : decode cX7_readBell 133 = .ok (.invokevirtual 117, 3) := by decide +kernel
theorem dX7_readBell_136 : decode cX7_readBell 136 = .ok (.iastore, 1) := by decide +kernel
theorem dX7_readBell_137 : decode cX7_readBell 137 = .ok (.aload_n 0, 1) := by decide +kernel
theorem dX7_readBell_138 : decode cX7_readBell 138 = .ok (.getfield 37, 3) := by decide +kernel
theorem dX7_readBell_141 : decode cX7_readBell 141 = .ok (.aload_n 0, 1) := by decide +kernel
theorem dX7_readBell_142 : decode cX7_readBell 142 = .ok (.getfield 107, 3) := by decide +kernel
theorem dX7_readBell_145 : decode cX7_readBell 145 = .ok (.iaload, 1) := by decide +kernel
theorem dX7_readBell_146 : decode cX7_readBell 146 = .ok (.bipush (-9), 2) := by decide +kernel
theorem dX7_readBell_148 : decode cX7_readBell 148 = .ok (.if_icmp .ne 5, 3) := by decide +kernel
theorem dX7_readBell_151 : decode cX7_readBell 151 = .ok (.iconst 0, 1) := by decide +kernel
theorem dX7_readBell_152 : decode cX7_readBell 152 = .ok (.ireturn, 1) := by decide +kernel
theorem dX7_readBell_153 : decode cX7_readBell 153 = .ok (.aload_n 0, 1) := by decide +kernel
theorem dX7_readBell_154 : decode cX7_readBell 154 = .ok (.getfield 40, 3) := by decide +kernel
theorem dX7_readBell_157 : decode cX7_readBell 157 = .ok (.aload_n 0, 1) := by decide +kernel
theorem dX7_readBell_158 : decode cX7_readBell 158 = .ok (.getfield 107, 3) := by decide +kernel
theorem dX7_readBell_161 : decode cX7_readBell 161 = .ok (.aload_n 0, 1) := by decide +kernel
theorem dX7_readBell_162 : decode cX7_readBell 162 = .ok (.iload_n 1, 1) := by decide +kernel
theorem dX7_readBell_163 : decode cX7_readBell 163 = .ok (.iconst 3, 1) := by decide +kernel
theorem dX7_readBell_164 : decode cX7_readBell 164 = .ok (.invokevirtual 117, 3) := by decide +kernel
theorem dX7_readBell_167 : decode cX7_readBell 167 = .ok (.iastore, 1) := by decide +kernel
theorem dX7_readBell_168 : decode cX7_readBell 168 = .ok (.aload_n 0, 1) := by decide +kernel
theorem dX7_readBell_169 : decode cX7_readBell 169 = .ok (.dup, 1) := by decide +kernel
theorem dX7_readBell_170 : decode cX7_readBell 170 = .ok (.getfield 107, 3) := by decide +kernel
theorem dX7_readBell_173 : decode cX7_readBell 173 = .ok (.iconst 1, 1) := by decide +kernel
theorem dX7_readBell_174 : decode cX7_readBell 174 = .ok (.iadd, 1) := by decide +kernel
theorem dX7_readBell_175 : decode cX7_readBell 175 = .ok (.putfield 107, 3) := by decide +kernel
theorem dX7_readBell_178 : decode cX7_readBell 178 = .ok (.aload_n 0, 1) := by decide +kernel
theorem dX7_readBell_179 : decode cX7_readBell 179 = .ok (.getfield 40, 3) := by decide +kernel
theorem dX7_readBell_182 : decode cX7_readBell 182 = .ok (.aload_n 0, 1) := by decide +kernel
theorem dX7_readBell_183 : decode cX7_readBell 183 = .ok (.getfield 107, 3) := by decide +kernel
theorem dX7_readBell_186 : decode cX7_readBell 186 = .ok (.iconst 1, 1) := by decide +kernel
theorem dX7_readBell_187 : decode cX7_readBell 187 = .ok (.isub, 1) := by decide +kernel
theorem dX7_readBell_188 : decode cX7_readBell 188 = .ok (.iaload, 1) := by decide +kernel
