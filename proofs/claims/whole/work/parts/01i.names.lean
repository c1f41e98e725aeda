theorem dX7_goings_1 : decode cX7_goings 1 = .ok (.iconst 0, 1) := by decide +kernel
theorem dX7_goings_2 : decode cX7_goings 2 = .ok (.putfield 61, 3) := by decide +kernel
theorem dX7_goings_5 : decode cX7_goings 5 = .ok (.iload_n 1, 1) := by decide +kernel
theorem dX7_goings_6 : decode cX7_goings 6 = .ok (.invokestatic 77, 3) := by decide +kernel
theorem dX7_goings_9 : decode cX7_goings 9 = .ok (.ifCond .ne 5, 3) := by decide +kernel
theorem dX7_goings_12 : decode cX7_goings 12 = .ok (.iconst (-1), 1) := by decide +kernel
theorem dX7_goings_13 : decode cX7_goings 13 = .ok (.ireturn, 1) := by decide +kernel
theorem dX7_goings_14 : decode cX7_goings 14 = .ok (.iload_n 2, 1) := by decide +kernel
theorem dX7_goings_15 : decode cX7_goings 15 = .ok (.invokestatic 81, 3) := by decide +kernel
theorem dX7_goings_18 : decode cX7_goings 18 = .ok (.ifCond .eq 36, 3) := by decide +kernel
theorem dX7_goings_21 : decode cX7_goings 21 = .ok (.iload 4, 2) := by decide +kernel
theorem dX7_goings_23 : decode cX7_goings 23 = .ok (.iconst 0, 1) := by decide +kernel
theorem dX7_goings_24 : decode cX7_goings 24 = .ok (.bipush 20, 2) := by decide +kernel
theorem dX7_goings_26 : decode cX7_goings 26 = .ok (.invokestatic 67, 3) := by decide +kernel
theorem dX7_goings_29 : decode cX7_goings 29 = .ok (.ifCond .eq 25, 3) := by decide +kernel
theorem dX7_goings_32 : decode cX7_goings 32 = .ok (.iload 5, 2) := by decide +kernel
theorem dX7_goings_34 : decode cX7_goings 34 = .ok (.iconst 0, 1) := by decide +kernel
theorem dX7_goings_35 : decode cX7_goings 35 = .ok (.iconst 3, 1) := by decide +kernel
theorem dX7_goings_36 : decode cX7_goings 36 = .ok (.invokestatic 67, 3) := by decide +kernel
theorem dX7_goings_39 : decode cX7_goings 39 = .ok (.ifCond .ne 18, 3) := by decide +kernel
theorem dX7_goings_42 : decode cX7_goings 42 = .ok (.iload 5, 2) := by decide +kernel
theorem dX7_goings_44 : decode cX7_goings 44 = .ok (.bipush 10, 2) := by decide +kernel
theorem dX7_goings_46 : decode cX7_goings 46 = .ok (.bipush 14, 2) := by decide +kernel
theorem dX7_goings_48 : decode cX7_goings 48 = .ok (.invokestatic 67, 3) := by decide +kernel
theorem dX7_goings_51 : decode cX7_goings 51 = .ok (.ifCond .ne 6, 3) := by decide +kernel
theorem dX7_goings_54 : decode cX7_goings 54 = .ok (.bipush (-2), 2) := by decide +kernel
theorem dX7_goings_56 : decode cX7_goings 56 = .ok (.ireturn, 1) := by decide +kernel
theorem dX7_goings_57 : decode cX7_goings 57 = .ok (.aload_n 0, 1) := by decide +kernel
theorem dX7_goings_58 : decode cX7_goings 58 = .ok (.iload_n 1, 1) := by decide +kernel
theorem dX7_goings_59 : decode cX7_goings 59 = .ok (.iload_n 2, 1) := by decide +kernel
theorem dX7_goings_60 : decode cX7_goings 60 = .ok (.iload_n 3, 1) := by decide +kernel
theorem dX7_goings_61 : decode cX7_goings 61 = .ok (.iconst 2, 1) := by decide +kernel
theorem dX7_goings_62 : decode cX7_goings 62 = .ok (.iload 4, 2) := by decide +kernel
theorem dX7_goings_64 : decode cX7_goings 64 = .ok (.imul, 1) := by decide +kernel
theorem dX7_goings_65 : decode cX7_goings 65 = .ok (.invokevirtual 84, 3) := by decide +kernel
theorem dX7_goings_68 : decode cX7_goings 68 = .ok (.istore 6, 2) := by decide +kernel
theorem dX7_goings_70 : decode cX7_goings 70 = .ok (.iload 6, 2) := by decide +kernel
theorem dX7_goings_72 : decode cX7_goings 72 = .ok (.ifCond .eq 10, 3) := by decide +kernel
theorem dX7_goings_75 : decode cX7_goings 75 = .ok (.aload_n 0, 1) := by decide +kernel
theorem dX7_goings_76 : decode cX7_goings 76 = .ok (.iload 6, 2) := by decide +kernel
theorem dX7_goings_78 : decode cX7_goings 78 = .ok (.invokevirtual 88, 3) := by decide +kernel
theorem dX7_goings_81 : decode cX7_goings 81 = .ok (.ireturn, 1) := by decide +kernel
theorem dX7_goings_82 : decode cX7_goings 82 = .ok (.aload_n 0, 1) := by decide +kernel
theorem dX7_goings_83 : decode cX7_goings 83 = .ok (.getfield 71, 3) := by decide +kernel
theorem dX7_goings_86 : decode cX7_goings 86 = .ok (.ifCond .ne 6, 3) := by decide +kernel
theorem dX7_goings_89 : decode cX7_goings 89 = .ok (.bipush (-3), 2) := by decide +kernel
theorem dX7_goings_91 : decode cX7_goings 91 = .ok (.ireturn, 1) := by decide +kernel
theorem dX7_goings_92 : decode cX7_goings 92 = .ok (.bipush 60, 2) := by decide +kernel
theorem dX7_goings_94 : decode cX7_goings 94 = .ok (.iload_n 1, 1) := by decide +kernel
theorem dX7_goings_95 : decode cX7_goings 95 = .ok (.imul, 1) := by decide +kernel
theorem dX7_goings_96 : decode cX7_goings 96 = .ok (.iload_n 3, 1) := by decide +kernel
theorem dX7_goings_97 : decode cX7_goings 97 = .ok (.iadd, 1) := by decide +kernel
theorem dX7_goings_98 : decode cX7_goings 98 = .ok (.istore 7, 2) := by decide +kernel
theorem dX7_goings_100 : decode cX7_goings 100 = .ok (.iconst 0, 1) := by decide +kernel
theorem dX7_goings_101 : decode cX7_goings 101 = .ok (.istore 8, 2) := by decide +kernel
theorem dX7_goings_103 : decode cX7_goings 103 = .ok (.iload 8, 2) := by decide +kernel
theorem dX7_goings_105 : decode cX7_goings 105 = .ok (.iload 4, 2) := by decide +kernel
theorem dX7_goings_107 : decode cX7_goings 107 = .ok (.if_icmp .ge 53, 3) := by decide +kernel
theorem dX7_goings_110 : decode cX7_goings 110 = .ok (.aload_n 0, 1) := by decide +kernel
theorem dX7_goings_111 : decode cX7_goings 111 = .ok (.aload_n 0, 1) := by decide +kernel
theorem dX7_goings_112 : decode cX7_goings 112 = .ok (.getfield 16, 3) := by decide +kernel
theorem dX7_goings_115 : decode cX7_goings 115 = .ok (.iload 7, 2) := by decide +kernel
theorem dX7_goings_117 : decode cX7_goings 117 = .ok (.iconst 2, 1) := by decide +kernel
theorem dX7_goings_118 : decode cX7_goings 118 = .ok (.iload 8, 2) := by decide +kernel
theorem dX7_goings_120 : decode cX7_goings 120 = .ok (.imul, 1) := by decide +kernel
theorem dX7_goings_121 : decode cX7_goings 121 = .ok (.iadd, 1) := by decide +kernel
theorem dX7_goings_122 : decode cX7_goings 122 = .ok (.iaload, 1) := by decide +kernel
theorem dX7_goings_123 : decode cX7_goings 123 = .ok (.invokevirtual 124, 3) := by decide +kernel
theorem dX7_goings_126 : decode cX7_goings 126 = .ok (.ifCond .ne 5, 3) := by decide +kernel
theorem dX7_goings_129 : decode cX7_goings 129 = .ok (.iconst (-1), 1) := by decide +kernel
theorem dX7_goings_130 : decode cX7_goings 130 = .ok (.ireturn, 1) := by decide +kernel
theorem dX7_goings_131 : decode cX7_goings 131 = .ok (.aload_n 0, 1) := by decide +kernel
theorem dX7_goings_132 : decode cX7_goings 132 = .ok (.getfield 16, 3) := by decide +kernel
theorem dX7_goings_135 : decode cX7_goings 135 = .ok (.iload 7, 2) := by decide +kernel
theorem dX7_goings_137 : decode cX7_goings 137 = .ok (.iconst 2, 1) := by decide +kernel
theorem dX7_goings_138 : decode cX7_goings 138 = .ok (.iload 8, 2) := by decide +kernel
theorem dX7_goings_140 : decode cX7_goings 140 = .ok (.imul, 1) := by decide +kernel
theorem dX7_goings_141 : decode cX7_goings 141 = .ok (.iadd, 1) := by decide +kernel
theorem dX7_goings_142 : decode cX7_goings 142 = .ok (.iconst 1, 1) := by decide +kernel
theorem dX7_goings_143 : decode cX7_goings 143 = .ok (.iadd, 1) := by decide +kernel
theorem dX7_goings_144 : decode cX7_goings 144 = .ok (.iaload, 1) := by decide +kernel
theorem dX7_goings_145 : decode cX7_goings 145 = .ok (.invokestatic 130, 3) := by decide +kernel
theorem dX7_goings_148 : decode cX7_goings 148 = .ok (.ifCond .ne 6, 3) := by decide +kernel
theorem dX7_goings_151 : decode cX7_goings 151 = .ok (.bipush (-2), 2) := by decide +kernel
theorem dX7_goings_153 : decode cX7_goings 153 = .ok (.ireturn, 1) := by decide +kernel
theorem dX7_goings_154 : decode cX7_goings 154 = .ok (.iinc 8 1, 3) := by decide +kernel
theorem dX7_goings_157 : decode cX7_goings 157 = .ok (.goto (-54), 3) := by decide +kernel
theorem dX7_goings_160 : decode cX7_goings 160 = .ok (.aload_n 0, 1) := by decide +kernel
theorem dX7_goings_161 : decode cX7_goings 161 = .ok (.iload 7, 2) := by decide +kernel
theorem dX7_goings_163 : decode cX7_goings 163 = .ok (.iload 4, 2) := by decide +kernel
theorem dX7_goings_165 : decode cX7_goings 165 = .ok (.invokevirtual 154, 3) := by decide +kernel
theorem dX7_goings_168 : decode cX7_goings 168 = .ok (.istore 8, 2) := by decide +kernel
theorem dX7_goings_170 : decode cX7_goings 170 = .ok (.iload 5, 2) := by decide +kernel
theorem dX7_goings_172 : decode cX7_goings 172 = .ok (.iconst 1, 1) := by decide +kernel
theorem dX7_goings_173 : decode cX7_goings 173 = .ok (.if_icmp .ne 6, 3) := by decide +kernel
theorem dX7_goings_176 : decode cX7_goings 176 = .ok (.iload 8, 2) := by decide +kernel
theorem dX7_goings_178 : decode cX7_goings 178 = .ok (.ireturn, 1) := by decide +kernel
theorem dX7_goings_179 : decode cX7_goings 179 = .ok (.iload 8, 2) := by decide +kernel
theorem dX7_goings_181 : decode cX7_goings 181 = .ok (.bipush (-9), 2) := by decide +kernel
theorem dX7_goings_183 : decode cX7_goings 183 = .ok (.if_icmp .ne 12, 3) := by decide +kernel
theorem dX7_goings_186 : decode cX7_goings 186 = .ok (.aload_n 0, 1) := by decide +kernel
theorem dX7_goings_187 : decode cX7_goings 187 = .ok (.iload 5, 2) := by decide +kernel
theorem dX7_goings_189 : decode cX7_goings 189 = .ok (.invokevirtual 157, 3) := by decide +kernel
theorem dX7_goings_192 : decode cX7_goings 192 = .ok (.goto 8, 3) := by decide +kernel
theorem dX7_goings_195 : decode cX7_goings 195 = .ok (.bipush (-100), 2) := by decide +kernel
theorem dX7_goings_197 : decode cX7_goings 197 = .ok (.iload 8, 2) := by decide +kernel
theorem dX7_goings_199 : decode cX7_goings 199 = .ok (.isub, 1) := by decide +kernel
theorem dX7_goings_200 : decode cX7_goings 200 = .ok (.ireturn, 1) := by decide +kernel
set_option maxRecDepth 20000 in
theorem ggX7_tellGoings_X7_isBell : GoodIn wsX7_tellGoings wsX7_isBell := goodIn_r _ [7, 8, 17, 18, 19, 20, 21, 22, 23, 24, 25, 26, 27, 28, 29, 30, 31, 32, 33, 34, 35, 36, 37, 38, 39, 40, 41, 42, 43, 44] (by decide +kernel) (by decide +kernel)
set_option maxRecDepth 20000 in
theorem gX7_tellGoings_X7_isBell : GoodIn wsX7_tellGoings (wsV RX7 124 RX7 yX7_isBell wsX7_isBell) := goodIn_app (goodIn_of _ (by decide +kernel)) ggX7_tellGoings_X7_isBell
set_option maxRecDepth 20000 in
theorem ggX7_tellGoings_X7_heardThen : GoodIn wsX7_tellGoings wsX7_heardThen := goodIn_r _ [12, 8, 1, 13, 14, 15, 6, 16, 17, 18, 19, 20, 21, 22, 23, 24, 25, 26, 27, 28, 29, 30, 31, 32, 33, 34, 35, 36, 37, 38, 39, 40, 41, 42, 43, 44] (by decide +kernel) (by decide +kernel)
set_option maxRecDepth 20000 in
theorem gX7_tellGoings_X7_heardThen : GoodIn wsX7_tellGoings (wsV RX7 160 RX7 yX7_heardThen wsX7_heardThen) := goodIn_app (goodIn_of _ (by decide +kernel)) ggX7_tellGoings_X7_heardThen
theorem dX7_tellGoings_0 : decode cX7_tellGoings 0 = .ok (.iload_n 1, 1) := by decide +kernel
theorem dX7_tellGoings_1 : decode cX7_tellGoings 1 = .ok (.bipush 10, 2) := by decide +kernel
theorem dX7_tellGoings_3 : decode cX7_tellGoings 3 = .ok (.if_icmp .lt 29, 3) := by decide +kernel
theorem dX7_tellGoings_6 : decode cX7_tellGoings 6 = .ok (.aload_n 0, 1) := by decide +kernel
theorem dX7_tellGoings_7 : decode cX7_tellGoings 7 = .ok (.iload_n 1, 1) := by decide +kernel
theorem dX7_tellGoings_8 : decode cX7_tellGoings 8 = .ok (.bipush 10, 2) := by decide +kernel
theorem dX7_tellGoings_10 : decode cX7_tellGoings 10 = .ok (.isub, 1) := by decide +kernel
theorem dX7_tellGoings_11 : decode cX7_tellGoings 11 = .ok (.invokevirtual 124, 3) := by decide +kernel
theorem dX7_tellGoings_14 : decode cX7_tellGoings 14 = .ok (.ifCond .eq 15, 3) := by decide +kernel
theorem dX7_tellGoings_17 : decode cX7_tellGoings 17 = .ok (.aload_n 0, 1) := by decide +kernel
theorem dX7_tellGoings_18 : decode cX7_tellGoings 18 = .ok (.getfield 43, 3) := by decide +kernel
theorem dX7_tellGoings_21 : decode cX7_tellGoings 21 = .ok (.iload_n 1, 1) := by decide +kernel
theorem dX7_tellGoings_22 : decode cX7_tellGoings 22 = .ok (.bipush 10, 2) := by decide +kernel
theorem dX7_tellGoings_24 : decode cX7_tellGoings 24 = .ok (.isub, 1) := by decide +kernel
theorem dX7_tellGoings_25 : decode cX7_tellGoings 25 = .ok (.iaload, 1) := by decide +kernel
theorem dX7_tellGoings_26 : decode cX7_tellGoings 26 = .ok (.goto 5, 3) := by decide +kernel
theorem dX7_tellGoings_29 : decode cX7_tellGoings 29 = .ok (.bipush (-9), 2) := by decide +kernel
theorem dX7_tellGoings_31 : decode cX7_tellGoings 31 = .ok (.ireturn, 1) := by decide +kernel
theorem dX7_tellGoings_32 : decode cX7_tellGoings 32 = .ok (.iload_n 1, 1) := by decide +kernel
theorem dX7_tellGoings_33 : decode cX7_tellGoings 33 = .ok (.iconst 3, 1) := by decide +kernel
theorem dX7_tellGoings_34 : decode cX7_tellGoings 34 = .ok (.if_icmp .ge 20, 3) := by decide +kernel
theorem dX7_tellGoings_37 : decode cX7_tellGoings 37 = .ok (.iload_n 1, 1) := by decide +kernel
theorem dX7_tellGoings_38 : decode cX7_tellGoings 38 = .ok (.ifCond .ne 11, 3) := by decide +kernel
theorem dX7_tellGoings_41 : decode cX7_tellGoings 41 = .ok (.aload_n 0, 1) := by decide +kernel
theorem dX7_tellGoings_42 : decode cX7_tellGoings 42 = .ok (.iconst 0, 1) := by decide +kernel
theorem dX7_tellGoings_43 : decode cX7_tellGoings 43 = .ok (.invokevirtual 160, 3) := by decide +kernel
theorem dX7_tellGoings_46 : decode cX7_tellGoings 46 = .ok (.goto 7, 3) := by decide +kernel
theorem dX7_tellGoings_49 : decode cX7_tellGoings 49 = .ok (.aload_n 0, 1) := by decide +kernel
theorem dX7_tellGoings_50 : decode cX7_tellGoings 50 = .ok (.getfield 151, 3) := by decide +kernel
theorem dX7_tellGoings_53 : decode cX7_tellGoings 53 = .ok (.ireturn, 1) := by decide +kernel
theorem dX7_tellGoings_54 : decode cX7_tellGoings 54 = .ok (.iconst 0, 1) := by decide +kernel
theorem dX7_tellGoings_55 : decode cX7_tellGoings 55 = .ok (.istore_n 2, 1) := by decide +kernel
theorem dX7_tellGoings_56 : decode cX7_tellGoings 56 = .ok (.iconst 1, 1) := by decide +kernel
theorem dX7_tellGoings_57 : decode cX7_tellGoings 57 = .ok (.istore_n 3, 1) := by decide +kernel
theorem dX7_tellGoings_58 : decode cX7_tellGoings 58 = .ok (.iload_n 3, 1) := by decide +kernel
theorem dX7_tellGoings_59 : decode cX7_tellGoings 59 = .ok (.bipush 10, 2) := by decide +kernel
theorem dX7_tellGoings_61 : decode cX7_tellGoings 61 = .ok (.if_icmp .ge 28, 3) := by decide +kernel
theorem dX7_tellGoings_64 : decode cX7_tellGoings 64 = .ok (.aload_n 0, 1) := by decide +kernel
theorem dX7_tellGoings_65 : decode cX7_tellGoings 65 = .ok (.iload_n 3, 1) := by decide +kernel
theorem dX7_tellGoings_66 : decode cX7_tellGoings 66 = .ok (.invokevirtual 160, 3) := by decide +kernel
theorem dX7_tellGoings_69 : decode cX7_tellGoings 69 = .ok (.aload_n 0, 1) := by decide +kernel
theorem dX7_tellGoings_70 : decode cX7_tellGoings 70 = .ok (.iload_n 2, 1) := by decide +kernel
theorem dX7_tellGoings_71 : decode cX7_tellGoings 71 = .ok (.invokevirtual 160, 3) := by decide +kernel
theorem dX7_tellGoings_74 : decode cX7_tellGoings 74 = .ok (.if_icmp .le 7, 3) := by decide +kernel
theorem dX7_tellGoings_77 : decode cX7_tellGoings 77 = .ok (.iload_n 3, 1) := by decide +kernel
theorem dX7_tellGoings_78 : decode cX7_tellGoings 78 = .ok (.goto 4, 3) := by decide +kernel
theorem dX7_tellGoings_81 : decode cX7_tellGoings 81 = .ok (.iload_n 2, 1) := by decide +kernel
theorem dX7_tellGoings_82 : decode cX7_tellGoings 82 = .ok (.istore_n 2, 1) := by decide +kernel
theorem dX7_tellGoings_83 : decode cX7_tellGoings 83 = .ok (.iinc 3 1, 3) := by decide +kernel
theorem dX7_tellGoings_86 : decode cX7_tellGoings 86 = .ok (.goto (-28), 3) := by decide +kernel
theorem dX7_tellGoings_89 : decode cX7_tellGoings 89 = .ok (.iload_n 2, 1) := by decide +kernel
theorem dX7_tellGoings_90 : decode cX7_tellGoings 90 = .ok (.ireturn, 1) := by decide +kernel
set_option maxRecDepth 20000 in
theorem ggX7_post_X7_isSet : GoodIn wsX7_post wsX7_isSet := goodIn_r _ [6, 1, 20, 21, 22, 23, 24, 25, 26, 27, 28, 29, 30, 31, 32, 33, 34, 35, 36, 37, 38, 39, 40, 41, 42, 43, 44, 45, 46, 47] (by decide +kernel) (by decide +kernel)
set_option maxRecDepth 20000 in
theorem gX7_post_X7_isSet : GoodIn wsX7_post (wsV RX7 163 RX7 yX7_isSet wsX7_isSet) := goodIn_app (goodIn_of _ (by decide +kernel)) ggX7_post_X7_isSet
set_option maxRecDepth 20000 in
theorem ggX7_post_X7_heardAt : GoodIn wsX7_post wsX7_heardAt := goodIn_r _ [10, 1, 11, 12, 13, 5, 14, 15, 16, 17, 18, 19, 20, 21, 22, 23, 24, 25, 26, 27, 28, 29, 30, 31, 32, 33, 34, 35, 36, 37, 38, 39, 40, 41, 42, 43, 44, 45, 46, 47] (by decide +kernel) (by decide +kernel)
set_option maxRecDepth 20000 in
theorem gX7_post_X7_heardAt : GoodIn wsX7_post (wsV RX7 142 RX7 yX7_heardAt wsX7_heardAt) := goodIn_app (goodIn_of _ (by decide +kernel)) ggX7_post_X7_heardAt
theorem dX7_post_0 : decode cX7_post 0 = .ok (.aload_n 0, 1) := by decide +kernel
theorem dX7_post_1 : decode cX7_post 1 = .ok (.getfield 71, 3) := by decide +kernel
theorem dX7_post_4 : decode cX7_post 4 = .ok (.ifCond .ne 6, 3) := by decide +kernel
theorem dX7_post_7 : decode cX7_post 7 = .ok (.bipush (-3), 2) := by decide +kernel
theorem dX7_post_9 : decode cX7_post 9 = .ok (.ireturn, 1) := by decide +kernel
theorem dX7_post_10 : decode cX7_post 10 = .ok (.aload_n 0, 1) := by decide +kernel
theorem dX7_post_11 : decode cX7_post 11 = .ok (.iload_n 1, 1) := by decide +kernel
theorem dX7_post_12 : decode cX7_post 12 = .ok (.invokevirtual 163, 3) := by decide +kernel
theorem dX7_post_15 : decode cX7_post 15 = .ok (.ifCond .ne 6, 3) := by decide +kernel
theorem dX7_post_18 : decode cX7_post 18 = .ok (.bipush (-2), 2) := by decide +kernel
theorem dX7_post_20 : decode cX7_post 20 = .ok (.ireturn, 1) := by decide +kernel
theorem dX7_post_21 : decode cX7_post 21 = .ok (.iconst 0, 1) := by decide +kernel
theorem dX7_post_22 : decode cX7_post 22 = .ok (.istore_n 2, 1) := by decide +kernel
theorem dX7_post_23 : decode cX7_post 23 = .ok (.iload_n 2, 1) := by decide +kernel
theorem dX7_post_24 : decode cX7_post 24 = .ok (.bipush 10, 2) := by decide +kernel
theorem dX7_post_26 : decode cX7_post 26 = .ok (.if_icmp .ge 22, 3) := by decide +kernel
theorem dX7_post_29 : decode cX7_post 29 = .ok (.aload_n 0, 1) := by decide +kernel
theorem dX7_post_30 : decode cX7_post 30 = .ok (.iload_n 2, 1) := by decide +kernel
theorem dX7_post_31 : decode cX7_post 31 = .ok (.invokevirtual 142, 3) := by decide +kernel
theorem dX7_post_34 : decode cX7_post 34 = .ok (.iload_n 1, 1) := by decide +kernel
theorem dX7_post_35 : decode cX7_post 35 = .ok (.iand, 1) := by decide +kernel
theorem dX7_post_36 : decode cX7_post 36 = .ok (.iload_n 1, 1) := by decide +kernel
theorem dX7_post_37 : decode cX7_post 37 = .ok (.if_icmp .ne 5, 3) := by decide +kernel
theorem dX7_post_40 : decode cX7_post 40 = .ok (.iload_n 2, 1) := by decide +kernel
theorem dX7_post_41 : decode cX7_post 41 = .ok (.ireturn, 1) := by decide +kernel
theorem dX7_post_42 : decode cX7_post 42 = .ok (.iinc 2 1, 3) := by decide +kernel
theorem dX7_post_45 : decode cX7_post 45 = .ok (.goto (-22), 3) := by decide +kernel
theorem dX7_post_48 : decode cX7_post 48 = .ok (.bipush (-9), 2) := by decide +kernel
theorem dX7_post_50 : decode cX7_post 50 = .ok (.ireturn, 1) := by decide +kernel
set_option maxRecDepth 20000 in
theorem ggX7_stepsTo_X7_apart : GoodIn wsX7_stepsTo wsX7_apart := goodIn_r _ [7] (by decide +kernel) (by decide +kernel)
set_option maxRecDepth 20000 in
theorem gX7_stepsTo_X7_apart : GoodIn wsX7_stepsTo (va_wsS RX7 136 yX7_apart wsX7_apart) := goodIn_app (goodIn_of _ (by decide +kernel)) ggX7_stepsTo_X7_apart
theorem dX7_stepsTo_0 : decode cX7_stepsTo 0 = .ok (.iconst 0, 1) := by decide +kernel
theorem dX7_stepsTo_1 : decode cX7_stepsTo 1 = .ok (.istore_n 3, 1) := by decide +kernel
theorem dX7_stepsTo_2 : decode cX7_stepsTo 2 = .ok (.iconst 0, 1) := by decide +kernel
theorem dX7_stepsTo_3 : decode cX7_stepsTo 3 = .ok (.istore 4, 2) := by decide +kernel
theorem dX7_stepsTo_5 : decode cX7_stepsTo 5 = .ok (.iload 4, 2) := by decide +kernel
theorem dX7_stepsTo_7 : decode cX7_stepsTo 7 = .ok (.aload_n 0, 1) := by decide +kernel
theorem dX7_stepsTo_8 : decode cX7_stepsTo 8 = .ok (.getfield 71, 3) := by decide +kernel
theorem dX7_stepsTo_11 : decode cX7_stepsTo 11 = .ok (.if_icmp .ge 55, 3) := by decide +kernel
theorem dX7_stepsTo_14 : decode cX7_stepsTo 14 = .ok (.aload_n 0, 1) := by decide +kernel
theorem dX7_stepsTo_15 : decode cX7_stepsTo 15 = .ok (.getfield 25, 3) := by decide +kernel
theorem dX7_stepsTo_18 : decode cX7_stepsTo 18 = .ok (.iload 4, 2) := by decide +kernel
theorem dX7_stepsTo_20 : decode cX7_stepsTo 20 = .ok (.iaload, 1) := by decide +kernel
theorem dX7_stepsTo_21 : decode cX7_stepsTo 21 = .ok (.iload_n 2, 1) := by decide +kernel
theorem dX7_stepsTo_22 : decode cX7_stepsTo 22 = .ok (.invokestatic 136, 3) := by decide +kernel
theorem dX7_stepsTo_25 : decode cX7_stepsTo 25 = .ok (.istore 5, 2) := by decide +kernel
theorem dX7_stepsTo_27 : decode cX7_stepsTo 27 = .ok (.iload_n 3, 1) := by decide +kernel
theorem dX7_stepsTo_28 : decode cX7_stepsTo 28 = .ok (.iload_n 1, 1) := by decide +kernel
theorem dX7_stepsTo_29 : decode cX7_stepsTo 29 = .ok (.iload 4, 2) := by decide +kernel
theorem dX7_stepsTo_31 : decode cX7_stepsTo 31 = .ok (.ishr, 1) := by decide +kernel
theorem dX7_stepsTo_32 : decode cX7_stepsTo 32 = .ok (.iconst 1, 1) := by decide +kernel
theorem dX7_stepsTo_33 : decode cX7_stepsTo 33 = .ok (.iand, 1) := by decide +kernel
theorem dX7_stepsTo_34 : decode cX7_stepsTo 34 = .ok (.iconst 1, 1) := by decide +kernel
theorem dX7_stepsTo_35 : decode cX7_stepsTo 35 = .ok (.if_icmp .ne 22, 3) := by decide +kernel
theorem dX7_stepsTo_38 : decode cX7_stepsTo 38 = .ok (.iload 5, 2) := by decide +kernel
theorem dX7_stepsTo_40 : decode cX7_stepsTo 40 = .ok (.aload_n 0, 1) := by decide +kernel
theorem dX7_stepsTo_41 : decode cX7_stepsTo 41 = .ok (.getfield 104, 3) := by decide +kernel
theorem dX7_stepsTo_44 : decode cX7_stepsTo 44 = .ok (.if_icmp .le 13, 3) := by decide +kernel
theorem dX7_stepsTo_47 : decode cX7_stepsTo 47 = .ok (.iload 5, 2) := by decide +kernel
theorem dX7_stepsTo_49 : decode cX7_stepsTo 49 = .ok (.aload_n 0, 1) := by decide +kernel
theorem dX7_stepsTo_50 : decode cX7_stepsTo 50 = .ok (.getfield 104, 3) := by decide +kernel
theorem dX7_stepsTo_53 : decode cX7_stepsTo 53 = .ok (.isub, 1) := by decide +kernel
theorem dX7_stepsTo_54 : decode cX7_stepsTo 54 = .ok (.goto 4, 3) := by decide +kernel
theorem dX7_stepsTo_57 : decode cX7_stepsTo 57 = .ok (.iconst 0, 1) := by decide +kernel
theorem dX7_stepsTo_58 : decode cX7_stepsTo 58 = .ok (.iadd, 1) := by decide +kernel
theorem dX7_stepsTo_59 : decode cX7_stepsTo 59 = .ok (.istore_n 3, 1) := by decide +kernel
theorem dX7_stepsTo_60 : decode cX7_stepsTo 60 = .ok (.iinc 4 1, 3) := by decide +kernel
theorem dX7_stepsTo_63 : decode cX7_stepsTo 63 = .ok (.goto (-58), 3) := by decide +kernel
theorem dX7_stepsTo_66 : decode cX7_stepsTo 66 = .ok (.iload_n 3, 1) := by decide +kernel
theorem dX7_stepsTo_67 : decode cX7_stepsTo 67 = .ok (.ireturn, 1) := by decide +kernel
set_option maxRecDepth 20000 in
theorem ggX7_call_X7_isSet : GoodIn wsX7_call wsX7_isSet := goodIn_r _ [6, 1, 19, 20, 21, 22, 23, 24, 25, 26, 27, 28, 29, 30, 31, 32, 33, 34, 35, 36, 37, 38, 39, 40, 41, 42, 43, 44, 45, 46] (by decide +kernel) (by decide +kernel)
set_option maxRecDepth 20000 in
theorem gX7_call_X7_isSet : GoodIn wsX7_call (wsV RX7 163 RX7 yX7_isSet wsX7_isSet) := goodIn_app (goodIn_of _ (by decide +kernel)) ggX7_call_X7_isSet
set_option maxRecDepth 20000 in
theorem ggX7_call_X7_within : GoodIn wsX7_call wsX7_within := goodIn_r _ [9] (by decide +kernel) (by decide +kernel)
set_option maxRecDepth 20000 in
theorem gX7_call_X7_within : GoodIn wsX7_call (va_wsS RX7 67 yX7_within wsX7_within) := goodIn_app (goodIn_of _ (by decide +kernel)) ggX7_call_X7_within
set_option maxRecDepth 20000 in
theorem ggX7_call_X7_stepsTo : GoodIn wsX7_call wsX7_stepsTo := goodIn_r _ [13, 1, 14, 15, 16, 17, 5, 18, 19, 20, 21, 22, 23, 24, 25, 26, 27, 28, 29, 30, 31, 32, 33, 34, 35, 36, 37, 38, 39, 40, 41, 42, 43, 44, 45, 46] (by decide +kernel) (by decide +kernel)
set_option maxRecDepth 20000 in
theorem gX7_call_X7_stepsTo : GoodIn wsX7_call (wsV RX7 166 RX7 yX7_stepsTo wsX7_stepsTo) := goodIn_app (goodIn_of _ (by decide +kernel)) ggX7_call_X7_stepsTo
theorem dX7_call_0 : decode cX7_call 0 = .ok (.aload_n 0, 1) := by decide +kernel
theorem dX7_call_1 : decode cX7_call 1 = .ok (.getfield 71, 3) := by decide +kernel
theorem dX7_call_4 : decode cX7_call 4 = .ok (.ifCond .ne 6, 3) := by decide +kernel
theorem dX7_call_7 : decode cX7_call 7 = .ok (.bipush (-3), 2) := by decide +kernel
theorem dX7_call_9 : decode cX7_call 9 = .ok (.ireturn, 1) := by decide +kernel
theorem dX7_call_10 : decode cX7_call 10 = .ok (.aload_n 0, 1) := by decide +kernel
theorem dX7_call_11 : decode cX7_call 11 = .ok (.iload_n 1, 1) := by decide +kernel
theorem dX7_call_12 : decode cX7_call 12 = .ok (.invokevirtual 163, 3) := by decide +kernel
theorem dX7_call_15 : decode cX7_call 15 = .ok (.ifCond .eq 12, 3) := by decide +kernel
theorem dX7_call_18 : decode cX7_call 18 = .ok (.iload_n 2, 1) := by decide +kernel
theorem dX7_call_19 : decode cX7_call 19 = .ok (.iconst 0, 1) := by decide +kernel
theorem dX7_call_20 : decode cX7_call 20 = .ok (.iconst 1, 1) := by decide +kernel
theorem dX7_call_21 : decode cX7_call 21 = .ok (.invokestatic 67, 3) := by decide +kernel
theorem dX7_call_24 : decode cX7_call 24 = .ok (.ifCond .ne 6, 3) := by decide +kernel
theorem dX7_call_27 : decode cX7_call 27 = .ok (.bipush (-2), 2) := by decide +kernel
theorem dX7_call_29 : decode cX7_call 29 = .ok (.ireturn, 1) := by decide +kernel
theorem dX7_call_30 : decode cX7_call 30 = .ok (.iconst 0, 1) := by decide +kernel
theorem dX7_call_31 : decode cX7_call 31 = .ok (.istore_n 3, 1) := by decide +kernel
theorem dX7_call_32 : decode cX7_call 32 = .ok (.iconst 1, 1) := by decide +kernel
theorem dX7_call_33 : decode cX7_call 33 = .ok (.istore 4, 2) := by decide +kernel
theorem dX7_call_35 : decode cX7_call 35 = .ok (.iload 4, 2) := by decide +kernel
theorem dX7_call_37 : decode cX7_call 37 = .ok (.bipush 10, 2) := by decide +kernel
theorem dX7_call_39 : decode cX7_call 39 = .ok (.if_icmp .ge 32, 3) := by decide +kernel
theorem dX7_call_42 : decode cX7_call 42 = .ok (.aload_n 0, 1) := by decide +kernel
theorem dX7_call_43 : decode cX7_call 43 = .ok (.iload_n 1, 1) := by decide +kernel
theorem dX7_call_44 : decode cX7_call 44 = .ok (.iload 4, 2) := by decide +kernel
theorem dX7_call_46 : decode cX7_call 46 = .ok (.invokevirtual 166, 3) := by decide +kernel
theorem dX7_call_49 : decode cX7_call 49 = .ok (.aload_n 0, 1) := by decide +kernel
theorem dX7_call_50 : decode cX7_call 50 = .ok (.iload_n 1, 1) := by decide +kernel
theorem dX7_call_51 : decode cX7_call 51 = .ok (.iload_n 3, 1) := by decide +kernel
theorem dX7_call_52 : decode cX7_call 52 = .ok (.invokevirtual 166, 3) := by decide +kernel
theorem dX7_call_55 : decode cX7_call 55 = .ok (.if_icmp .ge 8, 3) := by decide +kernel
theorem dX7_call_58 : decode cX7_call 58 = .ok (.iload 4, 2) := by decide +kernel
theorem dX7_call_60 : decode cX7_call 60 = .ok (.goto 4, 3) := by decide +kernel
theorem dX7_call_63 : decode cX7_call 63 = .ok (.iload_n 3, 1) := by decide +kernel
theorem dX7_call_64 : decode cX7_call 64 = .ok (.istore_n 3, 1) := by decide +kernel
theorem dX7_call_65 : decode cX7_call 65 = .ok (.iinc 4 1, 3) := by decide +kernel
theorem dX7_call_68 : decode cX7_call 68 = .ok (.goto (-33), 3) := by decide +kernel
theorem dX7_call_71 : decode cX7_call 71 = .ok (.iload_n 2, 1) := by decide +kernel
theorem dX7_call_72 : decode cX7_call 72 = .ok (.ifCond .ne 7, 3) := by decide +kernel
theorem dX7_call_75 : decode cX7_call 75 = .ok (.iload_n 3, 1) := by decide +kernel
theorem dX7_call_76 : decode cX7_call 76 = .ok (.goto 9, 3) := by decide +kernel
theorem dX7_call_79 : decode cX7_call 79 = .ok (.aload_n 0, 1) := by decide +kernel
theorem dX7_call_80 : decode cX7_call 80 = .ok (.iload_n 1, 1) := by decide +kernel
theorem dX7_call_81 : decode cX7_call 81 = .ok (.iload_n 3, 1) := by decide +kernel
theorem dX7_call_82 : decode cX7_call 82 = .ok (.invokevirtual 166, 3) := by decide +kernel
theorem dX7_call_85 : decode cX7_call 85 = .ok (.ireturn, 1) := by decide +kernel
set_option maxRecDepth 20000 in
theorem ggX7_isAlone_X7_soundIn : GoodIn wsX7_isAlone wsX7_soundIn := goodIn_r _ [6, 7, 8, 9, 14, 15, 16, 17, 18, 19, 20, 21, 22, 23, 24, 25, 26, 27, 28, 29, 30, 31, 32, 33, 34, 35, 36, 37, 38, 39, 40, 41] (by decide +kernel) (by decide +kernel)
set_option maxRecDepth 20000 in
theorem gX7_isAlone_X7_soundIn : GoodIn wsX7_isAlone (wsV RX7 133 RX7 yX7_soundIn wsX7_soundIn) := goodIn_app (goodIn_of _ (by decide +kernel)) ggX7_isAlone_X7_soundIn
set_option maxRecDepth 20000 in
theorem ggX7_isAlone_X7_canSound : GoodIn wsX7_isAlone wsX7_canSound := goodIn_r _ [13, 2, 3, 4, 5, 6, 7, 8, 9, 14, 15, 16, 17, 18, 19, 20, 21, 22, 23, 24, 25, 26, 27, 28, 29, 30, 31, 32, 33, 34, 35, 36, 37, 38, 39, 40, 41] (by decide +kernel) (by decide +kernel)
set_option maxRecDepth 20000 in
theorem gX7_isAlone_X7_canSound : GoodIn wsX7_isAlone (wsV RX7 145 RX7 yX7_canSound wsX7_canSound) := goodIn_app (goodIn_of _ (by decide +kernel)) ggX7_isAlone_X7_canSound
theorem dX7_isAlone_0 : decode cX7_isAlone 0 = .ok (.iconst 0, 1) := by decide +kernel
theorem dX7_isAlone_1 : decode cX7_isAlone 1 = .ok (.istore_n 2, 1) := by decide +kernel
theorem dX7_isAlone_2 : decode cX7_isAlone 2 = .ok (.iload_n 2, 1) := by decide +kernel
theorem dX7_isAlone_3 : decode cX7_isAlone 3 = .ok (.aload_n 0, 1) := by decide +kernel
theorem dX7_isAlone_4 : decode cX7_isAlone 4 = .ok (.getfield 71, 3) := by decide +kernel
theorem dX7_isAlone_7 : decode cX7_isAlone 7 = .ok (.if_icmp .ge 43, 3) := by decide +kernel
theorem dX7_isAlone_10 : decode cX7_isAlone 10 = .ok (.iconst 0, 1) := by decide +kernel
theorem dX7_isAlone_11 : decode cX7_isAlone 11 = .ok (.istore_n 3, 1) := by decide +kernel
theorem dX7_isAlone_12 : decode cX7_isAlone 12 = .ok (.iload_n 3, 1) := by decide +kernel
theorem dX7_isAlone_13 : decode cX7_isAlone 13 = .ok (.iconst 4, 1) := by decide +kernel
theorem dX7_isAlone_14 : decode cX7_isAlone 14 = .ok (.if_icmp .ge 30, 3) := by decide +kernel
theorem dX7_isAlone_17 : decode cX7_isAlone 17 = .ok (.iload_n 2, 1) := by decide +kernel
theorem dX7_isAlone_18 : decode cX7_isAlone 18 = .ok (.iload_n 1, 1) := by decide +kernel
theorem dX7_isAlone_19 : decode cX7_isAlone 19 = .ok (.if_icmp .eq 19, 3) := by decide +kernel
theorem dX7_isAlone_22 : decode cX7_isAlone 22 = .ok (.aload_n 0, 1) := by decide +kernel
theorem dX7_isAlone_23 : decode cX7_isAlone 23 = .ok (.iload_n 2, 1) := by decide +kernel
theorem dX7_isAlone_24 : decode cX7_isAlone 24 = .ok (.aload_n 0, 1) := by decide +kernel
theorem dX7_isAlone_25 : decode cX7_isAlone 25 = .ok (.iload_n 1, 1) := by decide +kernel
theorem dX7_isAlone_26 : decode cX7_isAlone 26 = .ok (.iload_n 3, 1) := by decide +kernel
theorem dX7_isAlone_27 : decode cX7_isAlone 27 = .ok (.invokevirtual 133, 3) := by decide +kernel
theorem dX7_isAlone_30 : decode cX7_isAlone 30 = .ok (.invokevirtual 145, 3) := by decide +kernel
theorem dX7_isAlone_33 : decode cX7_isAlone 33 = .ok (.ifCond .eq 5, 3) := by decide +kernel
theorem dX7_isAlone_36 : decode cX7_isAlone 36 = .ok (.iconst 0, 1) := by decide +kernel
theorem dX7_isAlone_37 : decode cX7_isAlone 37 = .ok (.ireturn, 1) := by decide +kernel
theorem dX7_isAlone_38 : decode cX7_isAlone 38 = .ok (.iinc 3 1, 3) := by decide +kernel
theorem dX7_isAlone_41 : decode cX7_isAlone 41 = .ok (.goto (-29), 3) := by decide +kernel
theorem dX7_isAlone_44 : decode cX7_isAlone 44 = .ok (.iinc 2 1, 3) := by decide +kernel
theorem dX7_isAlone_47 : decode cX7_isAlone 47 = .ok (.goto (-45), 3) := by decide +kernel
theorem dX7_isAlone_50 : decode cX7_isAlone 50 = .ok (.iconst 1, 1) := by decide +kernel
theorem dX7_isAlone_51 : decode cX7_isAlone 51 = .ok (.ireturn, 1) := by decide +kernel
set_option maxRecDepth 20000 in
theorem ggX7_cast_X7_isBell : GoodIn wsX7_cast wsX7_isBell := goodIn_r _ [6, 7, 22, 23, 24, 25, 26, 27, 28, 29, 30, 31, 32, 33, 34, 35, 36, 37, 38, 39, 40, 41, 42, 43, 44, 45, 46, 47, 48, 49] (by decide +kernel) (by decide +kernel)
set_option maxRecDepth 20000 in
theorem gX7_cast_X7_isBell : GoodIn wsX7_cast (wsV RX7 124 RX7 yX7_isBell wsX7_isBell) := goodIn_app (goodIn_of _ (by decide +kernel)) ggX7_cast_X7_isBell
set_option maxRecDepth 20000 in
theorem ggX7_cast_X7_isAlone : GoodIn wsX7_cast wsX7_isAlone := goodIn_r _ [11, 7, 12, 13, 14, 5, 15, 1, 16, 17, 18, 19, 20, 21, 22, 23, 24, 25, 26, 27, 28, 29, 30, 31, 32, 33, 34, 35, 36, 37, 38, 39, 40, 41, 42, 43, 44, 45, 46, 47, 48, 49] (by decide +kernel) (by decide +kernel)
set_option maxRecDepth 20000 in
theorem gX7_cast_X7_isAlone : GoodIn wsX7_cast (wsV RX7 169 RX7 yX7_isAlone wsX7_isAlone) := goodIn_app (goodIn_of _ (by decide +kernel)) ggX7_cast_X7_isAlone
theorem dX7_cast_0 : decode cX7_cast 0 = .ok (.aload_n 0, 1) := by decide +kernel
theorem dX7_cast_1 : decode cX7_cast 1 = .ok (.iload_n 1, 1) := by decide +kernel
theorem dX7_cast_2 : decode cX7_cast 2 = .ok (.invokevirtual 124, 3) := by decide +kernel
theorem dX7_cast_5 : decode cX7_cast 5 = .ok (.ifCond .ne 5, 3) := by decide +kernel
theorem dX7_cast_8 : decode cX7_cast 8 = .ok (.iconst (-1), 1) := by decide +kernel
theorem dX7_cast_9 : decode cX7_cast 9 = .ok (.ireturn, 1) := by decide +kernel
theorem dX7_cast_10 : decode cX7_cast 10 = .ok (.aload_n 0, 1) := by decide +kernel
theorem dX7_cast_11 : decode cX7_cast 11 = .ok (.getfield 22, 3) := by decide +kernel
theorem dX7_cast_14 : decode cX7_cast 14 = .ok (.iload_n 1, 1) := by decide +kernel
theorem dX7_cast_15 : decode cX7_cast 15 = .ok (.iaload, 1) := by decide +kernel
theorem dX7_cast_16 : decode cX7_cast 16 = .ok (.istore_n 2, 1) := by decide +kernel
theorem dX7_cast_17 : decode cX7_cast 17 = .ok (.bipush (-9), 2) := by decide +kernel
theorem dX7_cast_19 : decode cX7_cast 19 = .ok (.istore_n 3, 1) := by decide +kernel
theorem dX7_cast_20 : decode cX7_cast 20 = .ok (.bipush 9, 2) := by decide +kernel
theorem dX7_cast_22 : decode cX7_cast 22 = .ok (.istore 4, 2) := by decide +kernel
theorem dX7_cast_24 : decode cX7_cast 24 = .ok (.iload 4, 2) := by decide +kernel
theorem dX7_cast_26 : decode cX7_cast 26 = .ok (.ifCond .lt 32, 3) := by decide +kernel
theorem dX7_cast_29 : decode cX7_cast 29 = .ok (.aload_n 0, 1) := by decide +kernel
theorem dX7_cast_30 : decode cX7_cast 30 = .ok (.getfield 22, 3) := by decide +kernel
theorem dX7_cast_33 : decode cX7_cast 33 = .ok (.iload_n 1, 1) := by decide +kernel
theorem dX7_cast_34 : decode cX7_cast 34 = .ok (.iload 4, 2) := by decide +kernel
theorem dX7_cast_36 : decode cX7_cast 36 = .ok (.iastore, 1) := by decide +kernel
theorem dX7_cast_37 : decode cX7_cast 37 = .ok (.aload_n 0, 1) := by decide +kernel
theorem dX7_cast_38 : decode cX7_cast 38 = .ok (.iload_n 1, 1) := by decide +kernel
theorem dX7_cast_39 : decode cX7_cast 39 = .ok (.invokevirtual 169, 3) := by decide +kernel
theorem dX7_cast_42 : decode cX7_cast 42 = .ok (.ifCond .eq 8, 3) := by decide +kernel
theorem dX7_cast_45 : decode cX7_cast 45 = .ok (.iload 4, 2) := by decide +kernel
theorem dX7_cast_47 : decode cX7_cast 47 = .ok (.goto 4, 3) := by decide +kernel
theorem dX7_cast_50 : decode cX7_cast 50 = .ok (.iload_n 3, 1) := by decide +kernel
theorem dX7_cast_51 : decode cX7_cast 51 = .ok (.istore_n 3, 1) := by decide +kernel
theorem dX7_cast_52 : decode cX7_cast 52 = .ok (.iinc 4 (-1), 3) := by decide +kernel
theorem dX7_cast_55 : decode cX7_cast 55 = .ok (.goto (-31), 3) := by decide +kernel
theorem dX7_cast_58 : decode cX7_cast 58 = .ok (.aload_n 0, 1) := by decide +kernel
theorem dX7_cast_59 : decode cX7_cast 59 = .ok (.getfield 22, 3) := by decide +kernel
theorem dX7_cast_62 : decode cX7_cast 62 = .ok (.iload_n 1, 1) := by decide +kernel
theorem dX7_cast_63 : decode cX7_cast 63 = .ok (.iload_n 2, 1) := by decide +kernel
theorem dX7_cast_64 : decode cX7_cast 64 = .ok (.iastore, 1) := by decide +kernel
theorem dX7_cast_65 : decode cX7_cast 65 = .ok (.iload_n 3, 1) := by decide +kernel
theorem dX7_cast_66 : decode cX7_cast 66 = .ok (.ireturn, 1) := by decide +kernel
theorem dX7_changes_0 : decode cX7_changes 0 = .ok (.iconst 0, 1) := by decide +kernel
theorem dX7_changes_1 : decode cX7_changes 1 = .ok (.istore_n 1, 1) := by decide +kernel
theorem dX7_changes_2 : decode cX7_changes 2 = .ok (.iconst 0, 1) := by decide +kernel
theorem dX7_changes_3 : decode cX7_changes 3 = .ok (.istore_n 2, 1) := by decide +kernel
theorem dX7_changes_4 : decode cX7_changes 4 = .ok (.iload_n 2, 1) := by decide +kernel
theorem dX7_changes_5 : decode cX7_changes 5 = .ok (.aload_n 0, 1) := by decide +kernel
theorem dX7_changes_6 : decode cX7_changes 6 = .ok (.getfield 71, 3) := by decide +kernel
theorem dX7_changes_9 : decode cX7_changes 9 = .ok (.if_icmp .ge 32, 3) := by decide +kernel
theorem dX7_changes_12 : decode cX7_changes 12 = .ok (.iload_n 1, 1) := by decide +kernel
theorem dX7_changes_13 : decode cX7_changes 13 = .ok (.aload_n 0, 1) := by decide +kernel
theorem dX7_changes_14 : decode cX7_changes 14 = .ok (.getfield 28, 3) := by decide +kernel
theorem dX7_changes_17 : decode cX7_changes 17 = .ok (.iload_n 2, 1) := by decide +kernel
theorem dX7_changes_18 : decode cX7_changes 18 = .ok (.iaload, 1) := by decide +kernel
theorem dX7_changes_19 : decode cX7_changes 19 = .ok (.aload_n 0, 1) := by decide +kernel
theorem dX7_changes_20 : decode cX7_changes 20 = .ok (.getfield 46, 3) := by decide +kernel
theorem dX7_changes_23 : decode cX7_changes 23 = .ok (.iload_n 2, 1) := by decide +kernel
theorem dX7_changes_24 : decode cX7_changes 24 = .ok (.iaload, 1) := by decide +kernel
theorem dX7_changes_25 : decode cX7_changes 25 = .ok (.if_icmp .ne 7, 3) := by decide +kernel
theorem dX7_changes_28 : decode cX7_changes 28 = .ok (.iconst 0, 1) := by decide +kernel
theorem dX7_changes_29 : decode cX7_changes 29 = .ok (.goto 4, 3) := by decide +kernel
theorem dX7_changes_32 : decode cX7_changes 32 = .ok (.iconst 1, 1) := by decide +kernel
theorem dX7_changes_33 : decode cX7_changes 33 = .ok (.iadd, 1) := by decide +kernel
theorem dX7_changes_34 : decode cX7_changes 34 = .ok (.istore_n 1, 1) := by decide +kernel
theorem dX7_changes_35 : decode cX7_changes 35 = .ok (.iinc 2 1, 3) := by decide +kernel
theorem dX7_changes_38 : decode cX7_changes 38 = .ok (.goto (-34), 3) := by decide +kernel
theorem dX7_changes_41 : decode cX7_changes 41 = .ok (.iload_n 1, 1) := by decide +kernel
theorem dX7_changes_42 : decode cX7_changes 42 = .ok (.ireturn, 1) := by decide +kernel
set_option maxRecDepth 20000 in
theorem ggX7_findChoir_X7_changes : GoodIn wsX7_findChoir wsX7_changes := goodIn_r _ [9, 1, 3, 2, 24, 25, 26, 27, 28, 29, 30, 31, 32, 33, 34, 35, 36, 37, 38, 39, 40, 41, 42, 43, 44, 45, 46, 47, 48, 49, 50, 51] (by decide +kernel) (by decide +kernel)
set_option maxRecDepth 20000 in
theorem gX7_findChoir_X7_changes : GoodIn wsX7_findChoir (wsV RX7 172 RX7 yX7_changes wsX7_changes) := goodIn_app (goodIn_of _ (by decide +kernel)) ggX7_findChoir_X7_changes
set_option maxRecDepth 20000 in
theorem ggX7_findChoir_X7_familyOf : GoodIn wsX7_findChoir wsX7_familyOf := goodIn_r _ [13, 1, 3, 14, 15, 16, 8, 17, 18, 19, 20, 21, 22, 23, 24, 25, 26, 27, 28, 29, 30, 31, 32, 33, 34, 35, 36, 37, 38, 39, 40, 41, 42, 43, 44, 45, 46, 47, 48, 49, 50, 51] (by decide +kernel) (by decide +kernel)
set_option maxRecDepth 20000 in
theorem gX7_findChoir_X7_familyOf : GoodIn wsX7_findChoir (wsV RX7 148 RX7 yX7_familyOf wsX7_familyOf) := goodIn_app (goodIn_of _ (by decide +kernel)) ggX7_findChoir_X7_familyOf
theorem dX7_findChoir_0 : decode cX7_findChoir 0 = .ok (.iconst 1, 1) := by decide +kernel
theorem dX7_findChoir_1 : decode cX7_findChoir 1 = .ok (.istore_n 1, 1) := by decide +kernel
theorem dX7_findChoir_2 : decode cX7_findChoir 2 = .ok (.iconst 0, 1) := by decide +kernel
theorem dX7_findChoir_3 : decode cX7_findChoir 3 = .ok (.istore_n 2, 1) := by decide +kernel
theorem dX7_findChoir_4 : decode cX7_findChoir 4 = .ok (.iload_n 2, 1) := by decide +kernel
theorem dX7_findChoir_5 : decode cX7_findChoir 5 = .ok (.aload_n 0, 1) := by decide +kernel
theorem dX7_findChoir_6 : decode cX7_findChoir 6 = .ok (.getfield 71, 3) := by decide +kernel
theorem dX7_findChoir_9 : decode cX7_findChoir 9 = .ok (.if_icmp .ge 25, 3) := by decide +kernel
theorem dX7_findChoir_12 : decode cX7_findChoir 12 = .ok (.aload_n 0, 1) := by decide +kernel
theorem dX7_findChoir_13 : decode cX7_findChoir 13 = .ok (.getfield 46, 3) := by decide +kernel
theorem dX7_findChoir_16 : decode cX7_findChoir 16 = .ok (.iload_n 2, 1) := by decide +kernel
theorem dX7_findChoir_17 : decode cX7_findChoir 17 = .ok (.aload_n 0, 1) := by decide +kernel
theorem dX7_findChoir_18 : decode cX7_findChoir 18 = .ok (.getfield 28, 3) := by decide +kernel
theorem dX7_findChoir_21 : decode cX7_findChoir 21 = .ok (.iload_n 2, 1) := by decide +kernel
theorem dX7_findChoir_22 : decode cX7_findChoir 22 = .ok (.iaload, 1) := by decide +kernel
theorem dX7_findChoir_23 : decode cX7_findChoir 23 = .ok (.iastore, 1) := by decide +kernel
theorem dX7_findChoir_24 : decode cX7_findChoir 24 = .ok (.iload_n 1, 1) := by decide +kernel
theorem dX7_findChoir_25 : decode cX7_findChoir 25 = .ok (.iconst 4, 1) := by decide +kernel
theorem dX7_findChoir_26 : decode cX7_findChoir 26 = .ok (.imul, 1) := by decide +kernel
theorem dX7_findChoir_27 : decode cX7_findChoir 27 = .ok (.istore_n 1, 1) := by decide +kernel
theorem dX7_findChoir_28 : decode cX7_findChoir 28 = .ok (.iinc 2 1, 3) := by decide +kernel
theorem dX7_findChoir_31 : decode cX7_findChoir 31 = .ok (.goto (-27), 3) := by decide +kernel
theorem dX7_findChoir_34 : decode cX7_findChoir 34 = .ok (.bipush (-9), 2) := by decide +kernel
theorem dX7_findChoir_36 : decode cX7_findChoir 36 = .ok (.istore_n 2, 1) := by decide +kernel
theorem dX7_findChoir_37 : decode cX7_findChoir 37 = .ok (.iconst 0, 1) := by decide +kernel
theorem dX7_findChoir_38 : decode cX7_findChoir 38 = .ok (.istore_n 3, 1) := by decide +kernel
theorem dX7_findChoir_39 : decode cX7_findChoir 39 = .ok (.iload_n 3, 1) := by decide +kernel
theorem dX7_findChoir_40 : decode cX7_findChoir 40 = .ok (.iload_n 1, 1) := by decide +kernel
theorem dX7_findChoir_41 : decode cX7_findChoir 41 = .ok (.if_icmp .ge 115, 3) := by decide +kernel
theorem dX7_findChoir_44 : decode cX7_findChoir 44 = .ok (.iload_n 3, 1) := by decide +kernel
theorem dX7_findChoir_45 : decode cX7_findChoir 45 = .ok (.istore 4, 2) := by decide +kernel
theorem dX7_findChoir_47 : decode cX7_findChoir 47 = .ok (.aload_n 0, 1) := by decide +kernel
theorem dX7_findChoir_48 : decode cX7_findChoir 48 = .ok (.getfield 71, 3) := by decide +kernel
theorem dX7_findChoir_51 : decode cX7_findChoir 51 = .ok (.iconst 1, 1) := by decide +kernel
theorem dX7_findChoir_52 : decode cX7_findChoir 52 = .ok (.isub, 1) := by decide +kernel
theorem dX7_findChoir_53 : decode cX7_findChoir 53 = .ok (.istore 5, 2) := by decide +kernel
theorem dX7_findChoir_55 : decode cX7_findChoir 55 = .ok (.iload 5, 2) := by decide +kernel
theorem dX7_findChoir_57 : decode cX7_findChoir 57 = .ok (.ifCond .lt 26, 3) := by decide +kernel
theorem dX7_findChoir_60 : decode cX7_findChoir 60 = .ok (.aload_n 0, 1) := by decide +kernel
theorem dX7_findChoir_61 : decode cX7_findChoir 61 = .ok (.getfield 28, 3) := by decide +kernel
theorem dX7_findChoir_64 : decode cX7_findChoir 64 = .ok (.iload 5, 2) := by decide +kernel
theorem dX7_findChoir_66 : decode cX7_findChoir 66 = .ok (.iload 4, 2) := by decide +kernel
theorem dX7_findChoir_68 : decode cX7_findChoir 68 = .ok (.iconst 4, 1) := by decide +kernel
theorem dX7_findChoir_69 : decode cX7_findChoir 69 = .ok (.irem, 1) := by decide +kernel
theorem dX7_findChoir_70 : decode cX7_findChoir 70 = .ok (.iastore, 1) := by decide +kernel
theorem dX7_findChoir_71 : decode cX7_findChoir 71 = .ok (.iload 4, 2) := by decide +kernel
theorem dX7_findChoir_73 : decode cX7_findChoir 73 = .ok (.iconst 4, 1) := by decide +kernel
theorem dX7_findChoir_74 : decode cX7_findChoir 74 = .ok (.idiv, 1) := by decide +kernel
theorem dX7_findChoir_75 : decode cX7_findChoir 75 = .ok (.istore 4, 2) := by decide +kernel
theorem dX7_findChoir_77 : decode cX7_findChoir 77 = .ok (.iinc 5 (-1), 3) := by decide +kernel
theorem dX7_findChoir_80 : decode cX7_findChoir 80 = .ok (.goto (-25), 3) := by decide +kernel
theorem dX7_findChoir_83 : decode cX7_findChoir 83 = .ok (.iload_n 2, 1) := by decide +kernel
theorem dX7_findChoir_84 : decode cX7_findChoir 84 = .ok (.bipush (-9), 2) := by decide +kernel
theorem dX7_findChoir_86 : decode cX7_findChoir 86 = .ok (.if_icmp .eq 11, 3) := by decide +kernel
theorem dX7_findChoir_89 : decode cX7_findChoir 89 = .ok (.aload_n 0, 1) := by decide +kernel
theorem dX7_findChoir_90 : decode cX7_findChoir 90 = .ok (.invokevirtual 172, 3) := by decide +kernel
theorem dX7_findChoir_93 : decode cX7_findChoir 93 = .ok (.iload_n 2, 1) := by decide +kernel
theorem dX7_findChoir_94 : decode cX7_findChoir 94 = .ok (.if_icmp .ge 56, 3) := by decide +kernel
theorem dX7_findChoir_97 : decode cX7_findChoir 97 = .ok (.aload_n 0, 1) := by decide +kernel
theorem dX7_findChoir_98 : decode cX7_findChoir 98 = .ok (.iconst 0, 1) := by decide +kernel
theorem dX7_findChoir_99 : decode cX7_findChoir 99 = .ok (.invokevirtual 148, 3) := by decide +kernel
theorem dX7_findChoir_102 : decode cX7_findChoir 102 = .ok (.iconst 1, 1) := by decide +kernel
theorem dX7_findChoir_103 : decode cX7_findChoir 103 = .ok (.aload_n 0, 1) := by decide +kernel
theorem dX7_findChoir_104 : decode cX7_findChoir 104 = .ok (.getfield 71, 3) := by decide +kernel
theorem dX7_findChoir_107 : decode cX7_findChoir 107 = .ok (.ishl, 1) := by decide +kernel
theorem dX7_findChoir_108 : decode cX7_findChoir 108 = .ok (.iconst 1, 1) := by decide +kernel
theorem dX7_findChoir_109 : decode cX7_findChoir 109 = .ok (.isub, 1) := by decide +kernel
theorem dX7_findChoir_110 : decode cX7_findChoir 110 = .ok (.if_icmp .ne 40, 3) := by decide +kernel
theorem dX7_findChoir_113 : decode cX7_findChoir 113 = .ok (.aload_n 0, 1) := by decide +kernel
theorem dX7_findChoir_114 : decode cX7_findChoir 114 = .ok (.invokevirtual 172, 3) := by decide +kernel
theorem dX7_findChoir_117 : decode cX7_findChoir 117 = .ok (.istore_n 2, 1) := by decide +kernel
theorem dX7_findChoir_118 : decode cX7_findChoir 118 = .ok (.iconst 0, 1) := by decide +kernel
theorem dX7_findChoir_119 : decode cX7_findChoir 119 = .ok (.istore 5, 2) := by decide +kernel
theorem dX7_findChoir_121 : decode cX7_findChoir 121 = .ok (.iload 5, 2) := by decide +kernel
theorem dX7_findChoir_123 : decode cX7_findChoir 123 = .ok (.aload_n 0, 1) := by decide +kernel
theorem dX7_findChoir_124 : decode cX7_findChoir 124 = .ok (.getfield 71, 3) := by decide +kernel
theorem dX7_findChoir_127 : decode cX7_findChoir 127 = .ok (.if_icmp .ge 23, 3) := by decide +kernel
theorem dX7_findChoir_130 : decode cX7_findChoir 130 = .ok (.aload_n 0, 1) := by decide +kernel
theorem dX7_findChoir_131 : decode cX7_findChoir 131 = .ok (.getfield 49, 3) := by decide +kernel
theorem dX7_findChoir_134 : decode cX7_findChoir 134 = .ok (.iload 5, 2) := by decide +kernel
theorem dX7_findChoir_136 : decode cX7_findChoir 136 = .ok (.aload_n 0, 1) := by decide +kernel
theorem dX7_findChoir_137 : decode cX7_findChoir 137 = .ok (.getfield 28, 3) := by decide +kernel
theorem dX7_findChoir_140 : decode cX7_findChoir 140 = .ok (.iload 5, 2) := by decide +kernel
theorem dX7_findChoir_142 : decode cX7_findChoir 142 = .ok (.iaload, 1) := by decide +kernel
theorem dX7_findChoir_143 : decode cX7_findChoir 143 = .ok (.iastore, 1) := by decide +kernel
theorem dX7_findChoir_144 : decode cX7_findChoir 144 = .ok (.iinc 5 1, 3) := by decide +kernel
theorem dX7_findChoir_147 : decode cX7_findChoir 147 = .ok (.goto (-26), 3) := by decide +kernel
theorem dX7_findChoir_150 : decode cX7_findChoir 150 = .ok (.iinc 3 1, 3) := by decide +kernel
theorem dX7_findChoir_153 : decode cX7_findChoir 153 = .ok (.goto (-114), 3) := by decide +kernel
theorem dX7_findChoir_156 : decode cX7_findChoir 156 = .ok (.iconst 0, 1) := by decide +kernel
theorem dX7_findChoir_157 : decode cX7_findChoir 157 = .ok (.istore_n 3, 1) := by decide +kernel
theorem dX7_findChoir_158 : decode cX7_findChoir 158 = .ok (.iload_n 3, 1) := by decide +kernel
theorem dX7_findChoir_159 : decode cX7_findChoir 159 = .ok (.aload_n 0, 1) := by decide +kernel
theorem dX7_findChoir_160 : decode cX7_findChoir 160 = .ok (.getfield 71, 3) := by decide +kernel
theorem dX7_findChoir_163 : decode cX7_findChoir 163 = .ok (.if_icmp .ge 21, 3) := by decide +kernel
theorem dX7_findChoir_166 : decode cX7_findChoir 166 = .ok (.aload_n 0, 1) := by decide +kernel
theorem dX7_findChoir_167 : decode cX7_findChoir 167 = .ok (.getfield 28, 3) := by decide +kernel
theorem dX7_findChoir_170 : decode cX7_findChoir 170 = .ok (.iload_n 3, 1) := by decide +kernel
theorem dX7_findChoir_171 : decode cX7_findChoir 171 = .ok (.aload_n 0, 1) := by decide +kernel
theorem dX7_findChoir_172 : decode cX7_findChoir 172 = .ok (.getfield 46, 3) := by decide +kernel
theorem dX7_findChoir_175 : decode cX7_findChoir 175 = .ok (.iload_n 3, 1) := by decide +kernel
theorem dX7_findChoir_176 : decode cX7_findChoir 176 = .ok (.iaload, 1) := by decide +kernel
theorem dX7_findChoir_177 : decode cX7_findChoir 177 = .ok (.iastore, 1) := by decide +kernel
theorem dX7_findChoir_178 : decode cX7_findChoir 178 = .ok (.iinc 3 1, 3) := by decide +kernel
theorem dX7_findChoir_181 : decode cX7_findChoir 181 = .ok (.goto (-23), 3) := by decide +kernel
theorem dX7_findChoir_184 : decode cX7_findChoir 184 = .ok (.iload_n 2, 1) := by decide +kernel
theorem dX7_findChoir_185 : decode cX7_findChoir 185 = .ok (.ireturn, 1) := by decide +kernel
set_option maxRecDepth 20000 in
theorem ggX7_choir_X7_within : GoodIn wsX7_choir wsX7_within := goodIn_r _ [6] (by decide +kernel) (by decide +kernel)
set_option maxRecDepth 20000 in
theorem gX7_choir_X7_within : GoodIn wsX7_choir (va_wsS RX7 67 yX7_within wsX7_within) := goodIn_app (goodIn_of _ (by decide +kernel)) ggX7_choir_X7_within
set_option maxRecDepth 20000 in
theorem ggX7_choir_X7_findChoir : GoodIn wsX7_choir wsX7_findChoir := goodIn_r _ [10, 1, 11, 12, 2, 13, 14, 15, 5, 16, 17, 18, 19, 20, 21, 22, 23, 24, 25, 26, 27, 28, 29, 30, 31, 32, 33, 34, 35, 36, 37, 38, 39, 40, 41, 42, 43, 44, 45, 46, 47, 48, 49, 50, 51, 52, 53, 54, 55, 56, 57, 58] (by decide +kernel) (by decide +kernel)
set_option maxRecDepth 20000 in
theorem gX7_choir_X7_findChoir : GoodIn wsX7_choir (wsV RX7 176 RX7 yX7_findChoir wsX7_findChoir) := goodIn_app (goodIn_of _ (by decide +kernel)) ggX7_choir_X7_findChoir
theorem dX7_choir_0 : decode cX7_choir 0 = .ok (.aload_n 0, 1) := by decide +kernel
theorem dX7_choir_1 : decode cX7_choir 1 = .ok (.getfield 71, 3) := by decide +kernel
theorem dX7_choir_4 : decode cX7_choir 4 = .ok (.ifCond .ne 6, 3) := by decide +kernel
theorem dX7_choir_7 : decode cX7_choir 7 = .ok (.bipush (-3), 2) := by decide +kernel
theorem dX7_choir_9 : decode cX7_choir 9 = .ok (.ireturn, 1) := by decide +kernel
theorem dX7_choir_10 : decode cX7_choir 10 = .ok (.iload_n 1, 1) := by decide +kernel
theorem dX7_choir_11 : decode cX7_choir 11 = .ok (.iconst (-1), 1) := by decide +kernel
theorem dX7_choir_12 : decode cX7_choir 12 = .ok (.iconst 4, 1) := by decide +kernel
theorem dX7_choir_13 : decode cX7_choir 13 = .ok (.invokestatic 67, 3) := by decide +kernel
theorem dX7_choir_16 : decode cX7_choir 16 = .ok (.ifCond .ne 6, 3) := by decide +kernel
theorem dX7_choir_19 : decode cX7_choir 19 = .ok (.bipush (-2), 2) := by decide +kernel
theorem dX7_choir_21 : decode cX7_choir 21 = .ok (.ireturn, 1) := by decide +kernel
theorem dX7_choir_22 : decode cX7_choir 22 = .ok (.aload_n 0, 1) := by decide +kernel
theorem dX7_choir_23 : decode cX7_choir 23 = .ok (.invokevirtual 176, 3) := by decide +kernel
theorem dX7_choir_26 : decode cX7_choir 26 = .ok (.istore_n 2, 1) := by decide +kernel
theorem dX7_choir_27 : decode cX7_choir 27 = .ok (.iload_n 1, 1) := by decide +kernel
theorem dX7_choir_28 : decode cX7_choir 28 = .ok (.iconst (-1), 1) := by decide +kernel
theorem dX7_choir_29 : decode cX7_choir 29 = .ok (.if_icmp .ne 5, 3) := by decide +kernel
theorem dX7_choir_32 : decode cX7_choir 32 = .ok (.iload_n 2, 1) := by decide +kernel
theorem dX7_choir_33 : decode cX7_choir 33 = .ok (.ireturn, 1) := by decide +kernel
theorem dX7_choir_34 : decode cX7_choir 34 = .ok (.iload_n 2, 1) := by decide +kernel
theorem dX7_choir_35 : decode cX7_choir 35 = .ok (.bipush (-9), 2) := by decide +kernel
theorem dX7_choir_37 : decode cX7_choir 37 = .ok (.if_icmp .eq 20, 3) := by decide +kernel
theorem dX7_choir_40 : decode cX7_choir 40 = .ok (.iload_n 1, 1) := by decide +kernel
theorem dX7_choir_41 : decode cX7_choir 41 = .ok (.aload_n 0, 1) := by decide +kernel
theorem dX7_choir_42 : decode cX7_choir 42 = .ok (.getfield 71, 3) := by decide +kernel
theorem dX7_choir_45 : decode cX7_choir 45 = .ok (.if_icmp .ge 12, 3) := by decide +kernel
theorem dX7_choir_48 : decode cX7_choir 48 = .ok (.aload_n 0, 1) := by decide +kernel
theorem dX7_choir_49 : decode cX7_choir 49 = .ok (.getfield 49, 3) := by decide +kernel
theorem dX7_choir_52 : decode cX7_choir 52 = .ok (.iload_n 1, 1) := by decide +kernel
theorem dX7_choir_53 : decode cX7_choir 53 = .ok (.iaload, 1) := by decide +kernel
theorem dX7_choir_54 : decode cX7_choir 54 = .ok (.goto 5, 3) := by decide +kernel
theorem dX7_choir_57 : decode cX7_choir 57 = .ok (.bipush (-9), 2) := by decide +kernel
theorem dX7_choir_59 : decode cX7_choir 59 = .ok (.ireturn, 1) := by decide +kernel
set_option maxRecDepth 20000 in
theorem ggX7_reading_X7_isBell : GoodIn wsX7_reading wsX7_isBell := goodIn_r _ [9, 10, 17, 18, 19, 20, 21, 22, 23, 24, 25, 26, 27, 28, 29, 30, 31, 32, 33, 34, 35, 36, 37, 38, 39, 40, 41, 42, 43, 44] (by decide +kernel) (by decide +kernel)
set_option maxRecDepth 20000 in
theorem gX7_reading_X7_isBell : GoodIn wsX7_reading (wsV RX7 124 RX7 yX7_isBell wsX7_isBell) := goodIn_app (goodIn_of _ (by decide +kernel)) ggX7_reading_X7_isBell
set_option maxRecDepth 20000 in
theorem ggX7_reading_X7_isMood : GoodIn wsX7_reading wsX7_isMood := goodIn_r _ [13, 14, 15, 8, 16] (by decide +kernel) (by decide +kernel)
set_option maxRecDepth 20000 in
theorem gX7_reading_X7_isMood : GoodIn wsX7_reading (va_wsS RX7 127 yX7_isMood wsX7_isMood) := goodIn_app (goodIn_of _ (by decide +kernel)) ggX7_reading_X7_isMood
set_option maxRecDepth 20000 in
theorem ggX7_reading_X7_within : GoodIn wsX7_reading wsX7_within := goodIn_r _ [16] (by decide +kernel) (by decide +kernel)
set_option maxRecDepth 20000 in
theorem gX7_reading_X7_within : GoodIn wsX7_reading (va_wsS RX7 67 yX7_within wsX7_within) := goodIn_app (goodIn_of _ (by decide +kernel)) ggX7_reading_X7_within
theorem dX7_reading_0 : decode cX7_reading 0 = .ok (.aload_n 0, 1) := by decide +kernel
theorem dX7_reading_1 : decode cX7_reading 1 = .ok (.iload_n 1, 1) := by decide +kernel
theorem dX7_reading_2 : decode cX7_reading 2 = .ok (.invokevirtual 124, 3) := by decide +kernel
theorem dX7_reading_5 : decode cX7_reading 5 = .ok (.ifCond .ne 5, 3) := by decide +kernel
theorem dX7_reading_8 : decode cX7_reading 8 = .ok (.iconst (-1), 1) := by decide +kernel
theorem dX7_reading_9 : decode cX7_reading 9 = .ok (.ireturn, 1) := by decide +kernel
theorem dX7_reading_10 : decode cX7_reading 10 = .ok (.iload_n 2, 1) := by decide +kernel
theorem dX7_reading_11 : decode cX7_reading 11 = .ok (.invokestatic 127, 3) := by decide +kernel
theorem dX7_reading_14 : decode cX7_reading 14 = .ok (.ifCond .eq 13, 3) := by decide +kernel
theorem dX7_reading_17 : decode cX7_reading 17 = .ok (.iload_n 3, 1) := by decide +kernel
theorem dX7_reading_18 : decode cX7_reading 18 = .ok (.iconst 0, 1) := by decide +kernel
theorem dX7_reading_19 : decode cX7_reading 19 = .ok (.bipush 19, 2) := by decide +kernel
theorem dX7_reading_21 : decode cX7_reading 21 = .ok (.invokestatic 67, 3) := by decide +kernel
theorem dX7_reading_24 : decode cX7_reading 24 = .ok (.ifCond .ne 6, 3) := by decide +kernel
theorem dX7_reading_27 : decode cX7_reading 27 = .ok (.bipush (-2), 2) := by decide +kernel
theorem dX7_reading_29 : decode cX7_reading 29 = .ok (.ireturn, 1) := by decide +kernel
theorem dX7_reading_30 : decode cX7_reading 30 = .ok (.aload_n 0, 1) := by decide +kernel
theorem dX7_reading_31 : decode cX7_reading 31 = .ok (.getfield 110, 3) := by decide +kernel
theorem dX7_reading_34 : decode cX7_reading 34 = .ok (.bipush 8, 2) := by decide +kernel
theorem dX7_reading_36 : decode cX7_reading 36 = .ok (.if_icmp .ne 6, 3) := by decide +kernel
theorem dX7_reading_39 : decode cX7_reading 39 = .ok (.bipush (-4), 2) := by decide +kernel
theorem dX7_reading_41 : decode cX7_reading 41 = .ok (.ireturn, 1) := by decide +kernel
theorem dX7_reading_42 : decode cX7_reading 42 = .ok (.aload_n 0, 1) := by decide +kernel
theorem dX7_reading_43 : decode cX7_reading 43 = .ok (.getfield 52, 3) := by decide +kernel
theorem dX7_reading_46 : decode cX7_reading 46 = .ok (.aload_n 0, 1) := by decide +kernel
theorem dX7_reading_47 : decode cX7_reading 47 = .ok (.getfield 110, 3) := by decide +kernel
theorem dX7_reading_50 : decode cX7_reading 50 = .ok (.iload_n 1, 1) := by decide +kernel
theorem dX7_reading_51 : decode cX7_reading 51 = .ok (.iastore, 1) := by decide +kernel
theorem dX7_reading_52 : decode cX7_reading 52 = .ok (.aload_n 0, 1) := by decide +kernel
theorem dX7_reading_53 : decode cX7_reading 53 = .ok (.getfield 55, 3) := by decide +kernel
theorem dX7_reading_56 : decode cX7_reading 56 = .ok (.aload_n 0, 1) := by decide +kernel
theorem dX7_reading_57 : decode cX7_reading 57 = .ok (.getfield 110, 3) := by decide +kernel
theorem dX7_reading_60 : decode cX7_reading 60 = .ok (.iload_n 2, 1) := by decide +kernel
theorem dX7_reading_61 : decode cX7_reading 61 = .ok (.iastore, 1) := by decide +kernel
theorem dX7_reading_62 : decode cX7_reading 62 = .ok (.aload_n 0, 1) := by decide +kernel
theorem dX7_reading_63 : decode cX7_reading 63 = .ok (.getfield 58, 3) := by decide +kernel
theorem dX7_reading_66 : decode cX7_reading 66 = .ok (.aload_n 0, 1) := by decide +kernel
theorem dX7_reading_67 : decode cX7_reading 67 = .ok (.getfield 110, 3) := by decide +kernel
theorem dX7_reading_70 : decode cX7_reading 70 = .ok (.iload_n 3, 1) := by decide +kernel
theorem dX7_reading_71 : decode cX7_reading 71 = .ok (.iastore, 1) := by decide +kernel
theorem dX7_reading_72 : decode cX7_reading 72 = .ok (.aload_n 0, 1) := by decide +kernel
theorem dX7_reading_73 : decode cX7_reading 73 = .ok (.dup, 1) := by decide +kernel
theorem dX7_reading_74 : decode cX7_reading 74 = .ok (.getfield 110, 3) := by decide +kernel
theorem dX7_reading_77 : decode cX7_reading 77 = .ok (.iconst 1, 1) := by decide +kernel
theorem dX7_reading_78 : decode cX7_reading 78 = .ok (.iadd, 1) := by decide +kernel
theorem dX7_reading_79 : decode cX7_reading 79 = .ok (.putfield 110, 3) := by decide +kernel
theorem dX7_reading_82 : decode cX7_reading 82 = .ok (.aload_n 0, 1) := by decide +kernel
theorem dX7_reading_83 : decode cX7_reading 83 = .ok (.getfield 110, 3) := by decide +kernel
theorem dX7_reading_86 : decode cX7_reading 86 = .ok (.iconst 1, 1) := by decide +kernel
theorem dX7_reading_87 : decode cX7_reading 87 = .ok (.isub, 1) := by decide +kernel
theorem dX7_reading_88 : decode cX7_reading 88 = .ok (.ireturn, 1) := by decide +kernel
set_option maxRecDepth 20000 in
theorem ggX7_back_X7_within : GoodIn wsX7_back wsX7_within := goodIn_r _ [5] (by decide +kernel) (by decide +kernel)
set_option maxRecDepth 20000 in
theorem gX7_back_X7_within : GoodIn wsX7_back (va_wsS RX7 67 yX7_within wsX7_within) := goodIn_app (goodIn_of _ (by decide +kernel)) ggX7_back_X7_within
theorem dX7_back_0 : decode cX7_back 0 = .ok (.iload_n 1, 1) := by decide +kernel
theorem dX7_back_1 : decode cX7_back 1 = .ok (.iconst 0, 1) := by decide +kernel
theorem dX7_back_2 : decode cX7_back 2 = .ok (.aload_n 0, 1) := by decide +kernel
theorem dX7_back_3 : decode cX7_back 3 = .ok (.getfield 110, 3) := by decide +kernel
theorem dX7_back_6 : decode cX7_back 6 = .ok (.invokestatic 67, 3) := by decide +kernel
theorem dX7_back_9 : decode cX7_back 9 = .ok (.ifCond .ne 6, 3) := by decide +kernel
theorem dX7_back_12 : decode cX7_back 12 = .ok (.bipush (-2), 2) := by decide +kernel
theorem dX7_back_14 : decode cX7_back 14 = .ok (.ireturn, 1) := by decide +kernel
theorem dX7_back_15 : decode cX7_back 15 = .ok (.aload_n 0, 1) := by decide +kernel
theorem dX7_back_16 : decode cX7_back 16 = .ok (.dup, 1) := by decide +kernel
theorem dX7_back_17 : decode cX7_back 17 = .ok (.getfield 110, 3) := by decide +kernel
theorem dX7_back_20 : decode cX7_back 20 = .ok (.iload_n 1, 1) := by decide +kernel
theorem dX7_back_21 : decode cX7_back 21 = .ok (.isub, 1) := by decide +kernel
theorem dX7_back_22 : decode cX7_back 22 = .ok (.putfield 110, 3) := by decide +kernel
theorem dX7_back_25 : decode cX7_back 25 = .ok (.aload_n 0, 1) := by decide +kernel
theorem dX7_back_26 : decode cX7_back 26 = .ok (.getfield 110, 3) := by decide +kernel
theorem dX7_back_29 : decode cX7_back 29 = .ok (.ireturn, 1) := by decide +kernel
set_option maxRecDepth 20000 in
theorem ggX7_areSo_X7_soundIn : GoodIn wsX7_areSo wsX7_soundIn := goodIn_r _ [9, 10, 11, 12, 13, 14, 15, 16, 17, 18, 19, 20, 21, 22, 23, 24, 25, 26, 27, 28, 29, 30, 31, 32, 33, 34, 35, 36, 37, 38, 39, 40] (by decide +kernel) (by decide +kernel)
set_option maxRecDepth 20000 in
theorem gX7_areSo_X7_soundIn : GoodIn wsX7_areSo (wsV RX7 133 RX7 yX7_soundIn wsX7_soundIn) := goodIn_app (goodIn_of _ (by decide +kernel)) ggX7_areSo_X7_soundIn
theorem dX7_areSo_0 : decode cX7_areSo 0 = .ok (.iconst 0, 1) := by decide +kernel
theorem dX7_areSo_1 : decode cX7_areSo 1 = .ok (.istore_n 1, 1) := by decide +kernel
theorem dX7_areSo_2 : decode cX7_areSo 2 = .ok (.iload_n 1, 1) := by decide +kernel
theorem dX7_areSo_3 : decode cX7_areSo 3 = .ok (.aload_n 0, 1) := by decide +kernel
theorem dX7_areSo_4 : decode cX7_areSo 4 = .ok (.getfield 110, 3) := by decide +kernel
theorem dX7_areSo_7 : decode cX7_areSo 7 = .ok (.if_icmp .ge 36, 3) := by decide +kernel
theorem dX7_areSo_10 : decode cX7_areSo 10 = .ok (.aload_n 0, 1) := by decide +kernel
theorem dX7_areSo_11 : decode cX7_areSo 11 = .ok (.aload_n 0, 1) := by decide +kernel
theorem dX7_areSo_12 : decode cX7_areSo 12 = .ok (.getfield 52, 3) := by decide +kernel
theorem dX7_areSo_15 : decode cX7_areSo 15 = .ok (.iload_n 1, 1) := by decide +kernel
theorem dX7_areSo_16 : decode cX7_areSo 16 = .ok (.iaload, 1) := by decide +kernel
theorem dX7_areSo_17 : decode cX7_areSo 17 = .ok (.aload_n 0, 1) := by decide +kernel
theorem dX7_areSo_18 : decode cX7_areSo 18 = .ok (.getfield 55, 3) := by decide +kernel
theorem dX7_areSo_21 : decode cX7_areSo 21 = .ok (.iload_n 1, 1) := by decide +kernel
theorem dX7_areSo_22 : decode cX7_areSo 22 = .ok (.iaload, 1) := by decide +kernel
theorem dX7_areSo_23 : decode cX7_areSo 23 = .ok (.invokevirtual 133, 3) := by decide +kernel
theorem dX7_areSo_26 : decode cX7_areSo 26 = .ok (.aload_n 0, 1) := by decide +kernel
theorem dX7_areSo_27 : decode cX7_areSo 27 = .ok (.getfield 58, 3) := by decide +kernel
theorem dX7_areSo_30 : decode cX7_areSo 30 = .ok (.iload_n 1, 1) := by decide +kernel
theorem dX7_areSo_31 : decode cX7_areSo 31 = .ok (.iaload, 1) := by decide +kernel
theorem dX7_areSo_32 : decode cX7_areSo 32 = .ok (.if_icmp .eq 5, 3) := by decide +kernel
theorem dX7_areSo_35 : decode cX7_areSo 35 = .ok (.iconst 0, 1) := by decide +kernel
theorem dX7_areSo_36 : decode cX7_areSo 36 = .ok (.ireturn, 1) := by decide +kernel
theorem dX7_areSo_37 : decode cX7_areSo 37 = .ok (.iinc 1 1, 3) := by decide +kernel
theorem dX7_areSo_40 : decode cX7_areSo 40 = .ok (.goto (-38), 3) := by decide +kernel
theorem dX7_areSo_43 : decode cX7_areSo 43 = .ok (.iconst 1, 1) := by decide +kernel
theorem dX7_areSo_44 : decode cX7_areSo 44 = .ok (.ireturn, 1) := by decide +kernel
set_option maxRecDepth 20000 in
theorem ggX7_notes_X7_isBell : GoodIn wsX7_notes wsX7_isBell := goodIn_r _ [6, 7, 22, 23, 24, 25, 26, 27, 28, 29, 30, 31, 32, 33, 34, 35, 36, 37, 38, 39, 40, 41, 42, 43, 44, 45, 46, 47, 48, 49] (by decide +kernel) (by decide +kernel)
set_option maxRecDepth 20000 in
theorem gX7_notes_X7_isBell : GoodIn wsX7_notes (wsV RX7 124 RX7 yX7_isBell wsX7_isBell) := goodIn_app (goodIn_of _ (by decide +kernel)) ggX7_notes_X7_isBell
set_option maxRecDepth 20000 in
theorem ggX7_notes_X7_areSo : GoodIn wsX7_notes wsX7_areSo := goodIn_r _ [11, 12, 13, 14, 15, 16, 17, 18, 5, 19, 1, 20, 21, 22, 23, 24, 25, 26, 27, 28, 29, 30, 31, 32, 33, 34, 35, 36, 37, 38, 39, 40, 41, 42, 43, 44, 45, 46, 47, 48, 49] (by decide +kernel) (by decide +kernel)
set_option maxRecDepth 20000 in
theorem gX7_notes_X7_areSo : GoodIn wsX7_notes (wsV RX7 179 RX7 yX7_areSo wsX7_areSo) := goodIn_app (goodIn_of _ (by decide +kernel)) ggX7_notes_X7_areSo
theorem dX7_notes_0 : decode cX7_notes 0 = .ok (.aload_n 0, 1) := by decide +kernel
