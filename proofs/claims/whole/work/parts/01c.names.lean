theorem inlX0 : ∀ w ∈ wsX00, w ∈ wsL_law := fun _ h => List.mem_append_left _ (List.mem_append_left _ (List.mem_append_left _ (List.mem_append_right _ h)))
theorem inX0 : ∀ w ∈ wsX00, w ∈ lw_tbl := fun w h => wsL_law_in w (inlX0 w h)
theorem inlX1 : ∀ w ∈ wsX10, w ∈ wsL_law := fun _ h => List.mem_append_left _ (List.mem_append_left _ (List.mem_append_left _ (List.mem_append_left _ (List.mem_append_left _ (List.mem_append_right _ h)))))
theorem inX1 : ∀ w ∈ wsX10, w ∈ lw_tbl := fun w h => wsL_law_in w (inlX1 w h)
theorem inlX2 : ∀ w ∈ wsX20, w ∈ wsL_law := fun _ h => List.mem_append_left _ (List.mem_append_left _ (List.mem_append_left _ (List.mem_append_left _ (List.mem_append_right _ h))))
theorem inX2 : ∀ w ∈ wsX20, w ∈ lw_tbl := fun w h => wsL_law_in w (inlX2 w h)
theorem inlX3 : ∀ w ∈ wsX30, w ∈ wsL_law := fun _ h => List.mem_append_left _ (List.mem_append_right _ h)
theorem inX3 : ∀ w ∈ wsX30, w ∈ lw_tbl := fun w h => wsL_law_in w (inlX3 w h)
theorem inX4 : ∀ w ∈ wsX40, w ∈ lw_tbl := by decide +kernel
theorem inlX5 : ∀ w ∈ wsX50, w ∈ wsL_law := fun _ h => List.mem_append_left _ (List.mem_append_left _ (List.mem_append_right _ h))
theorem inX5 : ∀ w ∈ wsX50, w ∈ lw_tbl := fun w h => wsL_law_in w (inlX5 w h)
theorem inlX6 : ∀ w ∈ wsX60, w ∈ wsL_law := fun _ h => List.mem_append_left _ (List.mem_append_left _ (List.mem_append_left _ (List.mem_append_left _ (List.mem_append_left _ (List.mem_append_left _ (List.mem_append_left _ (List.mem_append_right _ h)))))))
theorem inX6 : ∀ w ∈ wsX60, w ∈ lw_tbl := fun w h => wsL_law_in w (inlX6 w h)
theorem inlX7 : ∀ w ∈ wsX70, w ∈ wsL_law := fun _ h => List.mem_append_left _ (List.mem_append_left _ (List.mem_append_left _ (List.mem_append_left _ (List.mem_append_left _ (List.mem_append_left _ (List.mem_append_right _ h))))))
theorem inX7 : ∀ w ∈ wsX70, w ∈ lw_tbl := fun w h => wsL_law_in w (inlX7 w h)
theorem inJ6 : ∀ w ∈ wsJ60, w ∈ lw_tbl := by decide +kernel
theorem inJ9 : ∀ w ∈ wsJ90, w ∈ lw_tbl := by decide +kernel
theorem inJ10 : ∀ w ∈ wsJ100, w ∈ lw_tbl := by decide +kernel
theorem dX0_init_0 : decode cX0_init 0 = .ok (.aload_n 0, 1) := by decide +kernel
theorem dX0_init_1 : decode cX0_init 1 = .ok (.invokespecial 3, 3) := by decide +kernel
theorem dX0_init_4 : decode cX0_init 4 = .ok (.aload_n 0, 1) := by decide +kernel
theorem dX0_init_5 : decode cX0_init 5 = .ok (.iconst 5, 1) := by decide +kernel
theorem dX0_init_6 : decode cX0_init 6 = .ok (.newarray .int, 2) := by decide +kernel
theorem dX0_init_8 : decode cX0_init 8 = .ok (.putfield 9, 3) := by decide +kernel
theorem dX0_init_11 : decode cX0_init 11 = .ok (.aload_n 0, 1) := by decide +kernel
theorem dX0_init_12 : decode cX0_init 12 = .ok (.iconst 5, 1) := by decide +kernel
theorem dX0_init_13 : decode cX0_init 13 = .ok (.newarray .int, 2) := by decide +kernel
theorem dX0_init_15 : decode cX0_init 15 = .ok (.putfield 15, 3) := by decide +kernel
theorem dX0_init_18 : decode cX0_init 18 = .ok (.aload_n 0, 1) := by decide +kernel
theorem dX0_init_19 : decode cX0_init 19 = .ok (.iconst 0, 1) := by decide +kernel
theorem dX0_init_20 : decode cX0_init 20 = .ok (.putfield 18, 3) := by decide +kernel
theorem dX0_init_23 : decode cX0_init 23 = .ok (.return_, 1) := by decide +kernel
set_option maxRecDepth 20000 in
theorem ggX0_familyOf_X0_kinOf : GoodIn wsX0_familyOf wsX0_kinOf := goodIn_r _ [5, 6, 7, 8, 9, 10, 11, 12, 13] (by decide +kernel) (by decide +kernel)
set_option maxRecDepth 20000 in
theorem gX0_familyOf_X0_kinOf : GoodIn wsX0_familyOf (wsV RX0 22 RX0 yX0_kinOf wsX0_kinOf) := goodIn_app (goodIn_of _ (by decide +kernel)) ggX0_familyOf_X0_kinOf
theorem dX0_familyOf_0 : decode cX0_familyOf 0 = .ok (.iconst 1, 1) := by decide +kernel
theorem dX0_familyOf_1 : decode cX0_familyOf 1 = .ok (.iload_n 1, 1) := by decide +kernel
theorem dX0_familyOf_2 : decode cX0_familyOf 2 = .ok (.ishl, 1) := by decide +kernel
theorem dX0_familyOf_3 : decode cX0_familyOf 3 = .ok (.istore_n 3, 1) := by decide +kernel
theorem dX0_familyOf_4 : decode cX0_familyOf 4 = .ok (.iconst 0, 1) := by decide +kernel
theorem dX0_familyOf_5 : decode cX0_familyOf 5 = .ok (.istore 4, 2) := by decide +kernel
theorem dX0_familyOf_7 : decode cX0_familyOf 7 = .ok (.iload 4, 2) := by decide +kernel
theorem dX0_familyOf_9 : decode cX0_familyOf 9 = .ok (.iload_n 2, 1) := by decide +kernel
theorem dX0_familyOf_10 : decode cX0_familyOf 10 = .ok (.if_icmp .ge 60, 3) := by decide +kernel
theorem dX0_familyOf_13 : decode cX0_familyOf 13 = .ok (.iload_n 3, 1) := by decide +kernel
theorem dX0_familyOf_14 : decode cX0_familyOf 14 = .ok (.istore 5, 2) := by decide +kernel
theorem dX0_familyOf_16 : decode cX0_familyOf 16 = .ok (.iconst 0, 1) := by decide +kernel
theorem dX0_familyOf_17 : decode cX0_familyOf 17 = .ok (.istore 6, 2) := by decide +kernel
theorem dX0_familyOf_19 : decode cX0_familyOf 19 = .ok (.iload 6, 2) := by decide +kernel
theorem dX0_familyOf_21 : decode cX0_familyOf 21 = .ok (.iload_n 2, 1) := by decide +kernel
theorem dX0_familyOf_22 : decode cX0_familyOf 22 = .ok (.if_icmp .ge 31, 3) := by decide +kernel
theorem dX0_familyOf_25 : decode cX0_familyOf 25 = .ok (.iload_n 3, 1) := by decide +kernel
theorem dX0_familyOf_26 : decode cX0_familyOf 26 = .ok (.iload 6, 2) := by decide +kernel
theorem dX0_familyOf_28 : decode cX0_familyOf 28 = .ok (.ishr, 1) := by decide +kernel
theorem dX0_familyOf_29 : decode cX0_familyOf 29 = .ok (.iconst 1, 1) := by decide +kernel
theorem dX0_familyOf_30 : decode cX0_familyOf 30 = .ok (.iand, 1) := by decide +kernel
theorem dX0_familyOf_31 : decode cX0_familyOf 31 = .ok (.iconst 1, 1) := by decide +kernel
theorem dX0_familyOf_32 : decode cX0_familyOf 32 = .ok (.if_icmp .ne 15, 3) := by decide +kernel
theorem dX0_familyOf_35 : decode cX0_familyOf 35 = .ok (.iload 5, 2) := by decide +kernel
theorem dX0_familyOf_37 : decode cX0_familyOf 37 = .ok (.aload_n 0, 1) := by decide +kernel
theorem dX0_familyOf_38 : decode cX0_familyOf 38 = .ok (.iload 6, 2) := by decide +kernel
theorem dX0_familyOf_40 : decode cX0_familyOf 40 = .ok (.iload_n 2, 1) := by decide +kernel
theorem dX0_familyOf_41 : decode cX0_familyOf 41 = .ok (.invokevirtual 22, 3) := by decide +kernel
theorem dX0_familyOf_44 : decode cX0_familyOf 44 = .ok (.ior, 1) := by decide +kernel
theorem dX0_familyOf_45 : decode cX0_familyOf 45 = .ok (.istore 5, 2) := by decide +kernel
theorem dX0_familyOf_47 : decode cX0_familyOf 47 = .ok (.iinc 6 1, 3) := by decide +kernel
theorem dX0_familyOf_50 : decode cX0_familyOf 50 = .ok (.goto (-31), 3) := by decide +kernel
theorem dX0_familyOf_53 : decode cX0_familyOf 53 = .ok (.iload 5, 2) := by decide +kernel
theorem dX0_familyOf_55 : decode cX0_familyOf 55 = .ok (.iload_n 3, 1) := by decide +kernel
theorem dX0_familyOf_56 : decode cX0_familyOf 56 = .ok (.if_icmp .ne 5, 3) := by decide +kernel
theorem dX0_familyOf_59 : decode cX0_familyOf 59 = .ok (.iload_n 3, 1) := by decide +kernel
theorem dX0_familyOf_60 : decode cX0_familyOf 60 = .ok (.ireturn, 1) := by decide +kernel
theorem dX0_familyOf_61 : decode cX0_familyOf 61 = .ok (.iload 5, 2) := by decide +kernel
theorem dX0_familyOf_63 : decode cX0_familyOf 63 = .ok (.istore_n 3, 1) := by decide +kernel
theorem dX0_familyOf_64 : decode cX0_familyOf 64 = .ok (.iinc 4 1, 3) := by decide +kernel
theorem dX0_familyOf_67 : decode cX0_familyOf 67 = .ok (.goto (-60), 3) := by decide +kernel
theorem dX0_familyOf_70 : decode cX0_familyOf 70 = .ok (.iload_n 3, 1) := by decide +kernel
theorem dX0_familyOf_71 : decode cX0_familyOf 71 = .ok (.ireturn, 1) := by decide +kernel
theorem dX0_kinOf_0 : decode cX0_kinOf 0 = .ok (.iconst 0, 1) := by decide +kernel
theorem dX0_kinOf_1 : decode cX0_kinOf 1 = .ok (.istore_n 3, 1) := by decide +kernel
theorem dX0_kinOf_2 : decode cX0_kinOf 2 = .ok (.iconst 0, 1) := by decide +kernel
theorem dX0_kinOf_3 : decode cX0_kinOf 3 = .ok (.istore 4, 2) := by decide +kernel
theorem dX0_kinOf_5 : decode cX0_kinOf 5 = .ok (.iload 4, 2) := by decide +kernel
theorem dX0_kinOf_7 : decode cX0_kinOf 7 = .ok (.iload_n 2, 1) := by decide +kernel
theorem dX0_kinOf_8 : decode cX0_kinOf 8 = .ok (.if_icmp .ge 37, 3) := by decide +kernel
theorem dX0_kinOf_11 : decode cX0_kinOf 11 = .ok (.aload_n 0, 1) := by decide +kernel
theorem dX0_kinOf_12 : decode cX0_kinOf 12 = .ok (.getfield 9, 3) := by decide +kernel
theorem dX0_kinOf_15 : decode cX0_kinOf 15 = .ok (.iload_n 1, 1) := by decide +kernel
theorem dX0_kinOf_16 : decode cX0_kinOf 16 = .ok (.iaload, 1) := by decide +kernel
theorem dX0_kinOf_17 : decode cX0_kinOf 17 = .ok (.aload_n 0, 1) := by decide +kernel
theorem dX0_kinOf_18 : decode cX0_kinOf 18 = .ok (.getfield 9, 3) := by decide +kernel
theorem dX0_kinOf_21 : decode cX0_kinOf 21 = .ok (.iload 4, 2) := by decide +kernel
theorem dX0_kinOf_23 : decode cX0_kinOf 23 = .ok (.iaload, 1) := by decide +kernel
theorem dX0_kinOf_24 : decode cX0_kinOf 24 = .ok (.isub, 1) := by decide +kernel
theorem dX0_kinOf_25 : decode cX0_kinOf 25 = .ok (.invokestatic 26, 3) := by decide +kernel
theorem dX0_kinOf_28 : decode cX0_kinOf 28 = .ok (.iconst 2, 1) := by decide +kernel
theorem dX0_kinOf_29 : decode cX0_kinOf 29 = .ok (.if_icmp .ne 10, 3) := by decide +kernel
theorem dX0_kinOf_32 : decode cX0_kinOf 32 = .ok (.iload_n 3, 1) := by decide +kernel
theorem dX0_kinOf_33 : decode cX0_kinOf 33 = .ok (.iconst 1, 1) := by decide +kernel
theorem dX0_kinOf_34 : decode cX0_kinOf 34 = .ok (.iload 4, 2) := by decide +kernel
theorem dX0_kinOf_36 : decode cX0_kinOf 36 = .ok (.ishl, 1) := by decide +kernel
theorem dX0_kinOf_37 : decode cX0_kinOf 37 = .ok (.ior, 1) := by decide +kernel
theorem dX0_kinOf_38 : decode cX0_kinOf 38 = .ok (.istore_n 3, 1) := by decide +kernel
theorem dX0_kinOf_39 : decode cX0_kinOf 39 = .ok (.iinc 4 1, 3) := by decide +kernel
theorem dX0_kinOf_42 : decode cX0_kinOf 42 = .ok (.goto (-37), 3) := by decide +kernel
theorem dX0_kinOf_45 : decode cX0_kinOf 45 = .ok (.iload_n 3, 1) := by decide +kernel
theorem dX0_kinOf_46 : decode cX0_kinOf 46 = .ok (.ireturn, 1) := by decide +kernel
set_option maxRecDepth 20000 in
theorem ggX0_findChoir_X0_changesOf : GoodIn wsX0_findChoir wsX0_changesOf := goodIn_r _ [7, 1, 8, 9, 10, 6, 11, 43, 44, 45, 46, 47, 48, 49] (by decide +kernel) (by decide +kernel)
set_option maxRecDepth 20000 in
theorem gX0_findChoir_X0_changesOf : GoodIn wsX0_findChoir (va_wsS RX0 37 yX0_changesOf wsX0_changesOf) := goodIn_app (goodIn_of _ (by decide +kernel)) ggX0_findChoir_X0_changesOf
set_option maxRecDepth 20000 in
theorem ggX0_findChoir_X0_isOneFamily : GoodIn wsX0_findChoir wsX0_isOneFamily := goodIn_r _ [15, 1, 16, 9, 10, 6, 11, 17, 18, 19, 20, 21, 22, 23, 24, 25, 26, 27, 28, 29, 30, 31, 32, 33, 34, 35, 36, 37, 38, 39, 40, 41, 42, 43, 44, 45, 46, 47, 48, 49, 50, 51, 52] (by decide +kernel) (by decide +kernel)
set_option maxRecDepth 20000 in
theorem gX0_findChoir_X0_isOneFamily : GoodIn wsX0_findChoir (wsV RX0 41 RX0 yX0_isOneFamily wsX0_isOneFamily) := goodIn_app (goodIn_of _ (by decide +kernel)) ggX0_findChoir_X0_isOneFamily
set_option maxRecDepth 20000 in
theorem ggX0_findChoir_X0_moodIn : GoodIn wsX0_findChoir wsX0_moodIn := goodIn_r _ [11] (by decide +kernel) (by decide +kernel)
set_option maxRecDepth 20000 in
theorem gX0_findChoir_X0_moodIn : GoodIn wsX0_findChoir (va_wsS RX0 45 yX0_moodIn wsX0_moodIn) := goodIn_app (goodIn_of _ (by decide +kernel)) ggX0_findChoir_X0_moodIn
theorem dX0_findChoir_0 : decode cX0_findChoir 0 = .ok (.iconst 1, 1) := by decide +kernel
theorem dX0_findChoir_1 : decode cX0_findChoir 1 = .ok (.iconst 2, 1) := by decide +kernel
theorem dX0_findChoir_2 : decode cX0_findChoir 2 = .ok (.aload_n 1, 1) := by decide +kernel
theorem dX0_findChoir_3 : decode cX0_findChoir 3 = .ok (.getfield 32, 3) := by decide +kernel
theorem dX0_findChoir_6 : decode cX0_findChoir 6 = .ok (.imul, 1) := by decide +kernel
theorem dX0_findChoir_7 : decode cX0_findChoir 7 = .ok (.ishl, 1) := by decide +kernel
theorem dX0_findChoir_8 : decode cX0_findChoir 8 = .ok (.istore_n 2, 1) := by decide +kernel
theorem dX0_findChoir_9 : decode cX0_findChoir 9 = .ok (.bipush (-9), 2) := by decide +kernel
theorem dX0_findChoir_11 : decode cX0_findChoir 11 = .ok (.istore_n 3, 1) := by decide +kernel
theorem dX0_findChoir_12 : decode cX0_findChoir 12 = .ok (.bipush 6, 2) := by decide +kernel
theorem dX0_findChoir_14 : decode cX0_findChoir 14 = .ok (.istore 4, 2) := by decide +kernel
theorem dX0_findChoir_16 : decode cX0_findChoir 16 = .ok (.iconst 0, 1) := by decide +kernel
theorem dX0_findChoir_17 : decode cX0_findChoir 17 = .ok (.istore 5, 2) := by decide +kernel
theorem dX0_findChoir_19 : decode cX0_findChoir 19 = .ok (.iload 5, 2) := by decide +kernel
theorem dX0_findChoir_21 : decode cX0_findChoir 21 = .ok (.iload_n 2, 1) := by decide +kernel
theorem dX0_findChoir_22 : decode cX0_findChoir 22 = .ok (.if_icmp .ge 41, 3) := by decide +kernel
theorem dX0_findChoir_25 : decode cX0_findChoir 25 = .ok (.aload_n 1, 1) := by decide +kernel
theorem dX0_findChoir_26 : decode cX0_findChoir 26 = .ok (.iload 5, 2) := by decide +kernel
theorem dX0_findChoir_28 : decode cX0_findChoir 28 = .ok (.invokestatic 37, 3) := by decide +kernel
theorem dX0_findChoir_31 : decode cX0_findChoir 31 = .ok (.istore 6, 2) := by decide +kernel
theorem dX0_findChoir_33 : decode cX0_findChoir 33 = .ok (.iload 6, 2) := by decide +kernel
theorem dX0_findChoir_35 : decode cX0_findChoir 35 = .ok (.iload 4, 2) := by decide +kernel
theorem dX0_findChoir_37 : decode cX0_findChoir 37 = .ok (.if_icmp .ge 20, 3) := by decide +kernel
theorem dX0_findChoir_40 : decode cX0_findChoir 40 = .ok (.aload_n 0, 1) := by decide +kernel
theorem dX0_findChoir_41 : decode cX0_findChoir 41 = .ok (.aload_n 1, 1) := by decide +kernel
theorem dX0_findChoir_42 : decode cX0_findChoir 42 = .ok (.iload 5, 2) := by decide +kernel
theorem dX0_findChoir_44 : decode cX0_findChoir 44 = .ok (.invokevirtual 41, 3) := by decide +kernel
theorem dX0_findChoir_47 : decode cX0_findChoir 47 = .ok (.ifCond .eq 10, 3) := by decide +kernel
theorem dX0_findChoir_50 : decode cX0_findChoir 50 = .ok (.iload 5, 2) := by decide +kernel
theorem dX0_findChoir_52 : decode cX0_findChoir 52 = .ok (.istore_n 3, 1) := by decide +kernel
theorem dX0_findChoir_53 : decode cX0_findChoir 53 = .ok (.iload 6, 2) := by decide +kernel
theorem dX0_findChoir_55 : decode cX0_findChoir 55 = .ok (.istore 4, 2) := by decide +kernel
theorem dX0_findChoir_57 : decode cX0_findChoir 57 = .ok (.iinc 5 1, 3) := by decide +kernel
theorem dX0_findChoir_60 : decode cX0_findChoir 60 = .ok (.goto (-41), 3) := by decide +kernel
theorem dX0_findChoir_63 : decode cX0_findChoir 63 = .ok (.iload_n 3, 1) := by decide +kernel
theorem dX0_findChoir_64 : decode cX0_findChoir 64 = .ok (.bipush (-9), 2) := by decide +kernel
theorem dX0_findChoir_66 : decode cX0_findChoir 66 = .ok (.if_icmp .ne 5, 3) := by decide +kernel
theorem dX0_findChoir_69 : decode cX0_findChoir 69 = .ok (.iconst 0, 1) := by decide +kernel
theorem dX0_findChoir_70 : decode cX0_findChoir 70 = .ok (.ireturn, 1) := by decide +kernel
theorem dX0_findChoir_71 : decode cX0_findChoir 71 = .ok (.aload_n 0, 1) := by decide +kernel
theorem dX0_findChoir_72 : decode cX0_findChoir 72 = .ok (.iload 4, 2) := by decide +kernel
theorem dX0_findChoir_74 : decode cX0_findChoir 74 = .ok (.putfield 18, 3) := by decide +kernel
theorem dX0_findChoir_77 : decode cX0_findChoir 77 = .ok (.iconst 0, 1) := by decide +kernel
theorem dX0_findChoir_78 : decode cX0_findChoir 78 = .ok (.istore 5, 2) := by decide +kernel
theorem dX0_findChoir_80 : decode cX0_findChoir 80 = .ok (.iload 5, 2) := by decide +kernel
theorem dX0_findChoir_82 : decode cX0_findChoir 82 = .ok (.aload_n 1, 1) := by decide +kernel
theorem dX0_findChoir_83 : decode cX0_findChoir 83 = .ok (.getfield 32, 3) := by decide +kernel
theorem dX0_findChoir_86 : decode cX0_findChoir 86 = .ok (.if_icmp .ge 26, 3) := by decide +kernel
theorem dX0_findChoir_89 : decode cX0_findChoir 89 = .ok (.aload_n 0, 1) := by decide +kernel
theorem dX0_findChoir_90 : decode cX0_findChoir 90 = .ok (.getfield 15, 3) := by decide +kernel
theorem dX0_findChoir_93 : decode cX0_findChoir 93 = .ok (.iload 5, 2) := by decide +kernel
theorem dX0_findChoir_95 : decode cX0_findChoir 95 = .ok (.iload_n 3, 1) := by decide +kernel
theorem dX0_findChoir_96 : decode cX0_findChoir 96 = .ok (.iload 5, 2) := by decide +kernel
theorem dX0_findChoir_98 : decode cX0_findChoir 98 = .ok (.aload_n 1, 1) := by decide +kernel
theorem dX0_findChoir_99 : decode cX0_findChoir 99 = .ok (.getfield 32, 3) := by decide +kernel
theorem dX0_findChoir_102 : decode cX0_findChoir 102 = .ok (.invokestatic 45, 3) := by decide +kernel
theorem dX0_findChoir_105 : decode cX0_findChoir 105 = .ok (.iastore, 1) := by decide +kernel
theorem dX0_findChoir_106 : decode cX0_findChoir 106 = .ok (.iinc 5 1, 3) := by decide +kernel
theorem dX0_findChoir_109 : decode cX0_findChoir 109 = .ok (.goto (-29), 3) := by decide +kernel
theorem dX0_findChoir_112 : decode cX0_findChoir 112 = .ok (.iconst 1, 1) := by decide +kernel
theorem dX0_findChoir_113 : decode cX0_findChoir 113 = .ok (.ireturn, 1) := by decide +kernel
theorem dX0_moodIn_0 : decode cX0_moodIn 0 = .ok (.iload_n 0, 1) := by decide +kernel
theorem dX0_moodIn_1 : decode cX0_moodIn 1 = .ok (.iconst 2, 1) := by decide +kernel
theorem dX0_moodIn_2 : decode cX0_moodIn 2 = .ok (.iload_n 2, 1) := by decide +kernel
theorem dX0_moodIn_3 : decode cX0_moodIn 3 = .ok (.iconst 1, 1) := by decide +kernel
theorem dX0_moodIn_4 : decode cX0_moodIn 4 = .ok (.isub, 1) := by decide +kernel
theorem dX0_moodIn_5 : decode cX0_moodIn 5 = .ok (.iload_n 1, 1) := by decide +kernel
theorem dX0_moodIn_6 : decode cX0_moodIn 6 = .ok (.isub, 1) := by decide +kernel
theorem dX0_moodIn_7 : decode cX0_moodIn 7 = .ok (.imul, 1) := by decide +kernel
theorem dX0_moodIn_8 : decode cX0_moodIn 8 = .ok (.ishr, 1) := by decide +kernel
theorem dX0_moodIn_9 : decode cX0_moodIn 9 = .ok (.iconst 3, 1) := by decide +kernel
theorem dX0_moodIn_10 : decode cX0_moodIn 10 = .ok (.iand, 1) := by decide +kernel
theorem dX0_moodIn_11 : decode cX0_moodIn 11 = .ok (.ireturn, 1) := by decide +kernel
set_option maxRecDepth 20000 in
theorem ggX0_changesOf_X0_moodIn : GoodIn wsX0_changesOf wsX0_moodIn := goodIn_r _ [6] (by decide +kernel) (by decide +kernel)
set_option maxRecDepth 20000 in
theorem gX0_changesOf_X0_moodIn : GoodIn wsX0_changesOf (va_wsS RX0 45 yX0_moodIn wsX0_moodIn) := goodIn_app (goodIn_of _ (by decide +kernel)) ggX0_changesOf_X0_moodIn
theorem dX0_changesOf_0 : decode cX0_changesOf 0 = .ok (.iconst 0, 1) := by decide +kernel
theorem dX0_changesOf_1 : decode cX0_changesOf 1 = .ok (.istore_n 2, 1) := by decide +kernel
theorem dX0_changesOf_2 : decode cX0_changesOf 2 = .ok (.iconst 0, 1) := by decide +kernel
theorem dX0_changesOf_3 : decode cX0_changesOf 3 = .ok (.istore_n 3, 1) := by decide +kernel
theorem dX0_changesOf_4 : decode cX0_changesOf 4 = .ok (.iload_n 3, 1) := by decide +kernel
theorem dX0_changesOf_5 : decode cX0_changesOf 5 = .ok (.aload_n 0, 1) := by decide +kernel
theorem dX0_changesOf_6 : decode cX0_changesOf 6 = .ok (.getfield 32, 3) := by decide +kernel
theorem dX0_changesOf_9 : decode cX0_changesOf 9 = .ok (.if_icmp .ge 30, 3) := by decide +kernel
theorem dX0_changesOf_12 : decode cX0_changesOf 12 = .ok (.iload_n 1, 1) := by decide +kernel
theorem dX0_changesOf_13 : decode cX0_changesOf 13 = .ok (.iload_n 3, 1) := by decide +kernel
theorem dX0_changesOf_14 : decode cX0_changesOf 14 = .ok (.aload_n 0, 1) := by decide +kernel
theorem dX0_changesOf_15 : decode cX0_changesOf 15 = .ok (.getfield 32, 3) := by decide +kernel
theorem dX0_changesOf_18 : decode cX0_changesOf 18 = .ok (.invokestatic 45, 3) := by decide +kernel
theorem dX0_changesOf_21 : decode cX0_changesOf 21 = .ok (.aload_n 0, 1) := by decide +kernel
theorem dX0_changesOf_22 : decode cX0_changesOf 22 = .ok (.getfield 49, 3) := by decide +kernel
theorem dX0_changesOf_25 : decode cX0_changesOf 25 = .ok (.iload_n 3, 1) := by decide +kernel
theorem dX0_changesOf_26 : decode cX0_changesOf 26 = .ok (.iaload, 1) := by decide +kernel
theorem dX0_changesOf_27 : decode cX0_changesOf 27 = .ok (.if_icmp .eq 6, 3) := by decide +kernel
theorem dX0_changesOf_30 : decode cX0_changesOf 30 = .ok (.iinc 2 1, 3) := by decide +kernel
theorem dX0_changesOf_33 : decode cX0_changesOf 33 = .ok (.iinc 3 1, 3) := by decide +kernel
theorem dX0_changesOf_36 : decode cX0_changesOf 36 = .ok (.goto (-32), 3) := by decide +kernel
theorem dX0_changesOf_39 : decode cX0_changesOf 39 = .ok (.iload_n 2, 1) := by decide +kernel
theorem dX0_changesOf_40 : decode cX0_changesOf 40 = .ok (.ireturn, 1) := by decide +kernel
set_option maxRecDepth 20000 in
theorem ggX0_isOneFamily_X0_moodIn : GoodIn wsX0_isOneFamily wsX0_moodIn := goodIn_r _ [6] (by decide +kernel) (by decide +kernel)
set_option maxRecDepth 20000 in
theorem gX0_isOneFamily_X0_moodIn : GoodIn wsX0_isOneFamily (va_wsS RX0 45 yX0_moodIn wsX0_moodIn) := goodIn_app (goodIn_of _ (by decide +kernel)) ggX0_isOneFamily_X0_moodIn
set_option maxRecDepth 20000 in
theorem ggX0_isOneFamily_X1_soundIn : GoodIn wsX0_isOneFamily wsX1_soundIn := goodIn_r _ [11, 12, 13, 14, 15, 16, 17, 18, 19, 20, 21, 33, 34, 35, 36, 37, 38, 39] (by decide +kernel) (by decide +kernel)
set_option maxRecDepth 20000 in
theorem gX0_isOneFamily_X1_soundIn : GoodIn wsX0_isOneFamily (wsV RX0 52 RX1 yX1_soundIn wsX1_soundIn) := goodIn_app (goodIn_of _ (by decide +kernel)) ggX0_isOneFamily_X1_soundIn
set_option maxRecDepth 20000 in
theorem ggX0_isOneFamily_X0_familyOf : GoodIn wsX0_isOneFamily wsX0_familyOf := goodIn_r _ [25, 26, 27, 28, 5, 29, 2, 30, 31, 20, 32, 40, 41, 42] (by decide +kernel) (by decide +kernel)
set_option maxRecDepth 20000 in
theorem gX0_isOneFamily_X0_familyOf : GoodIn wsX0_isOneFamily (wsV RX0 55 RX0 yX0_familyOf wsX0_familyOf) := goodIn_app (goodIn_of _ (by decide +kernel)) ggX0_isOneFamily_X0_familyOf
theorem dX0_isOneFamily_0 : decode cX0_isOneFamily 0 = .ok (.iconst 0, 1) := by decide +kernel
theorem dX0_isOneFamily_1 : decode cX0_isOneFamily 1 = .ok (.istore_n 3, 1) := by decide +kernel
theorem dX0_isOneFamily_2 : decode cX0_isOneFamily 2 = .ok (.iload_n 3, 1) := by decide +kernel
theorem dX0_isOneFamily_3 : decode cX0_isOneFamily 3 = .ok (.aload_n 1, 1) := by decide +kernel
theorem dX0_isOneFamily_4 : decode cX0_isOneFamily 4 = .ok (.getfield 32, 3) := by decide +kernel
theorem dX0_isOneFamily_7 : decode cX0_isOneFamily 7 = .ok (.if_icmp .ge 29, 3) := by decide +kernel
theorem dX0_isOneFamily_10 : decode cX0_isOneFamily 10 = .ok (.aload_n 0, 1) := by decide +kernel
theorem dX0_isOneFamily_11 : decode cX0_isOneFamily 11 = .ok (.getfield 9, 3) := by decide +kernel
theorem dX0_isOneFamily_14 : decode cX0_isOneFamily 14 = .ok (.iload_n 3, 1) := by decide +kernel
theorem dX0_isOneFamily_15 : decode cX0_isOneFamily 15 = .ok (.aload_n 1, 1) := by decide +kernel
theorem dX0_isOneFamily_16 : decode cX0_isOneFamily 16 = .ok (.iload_n 3, 1) := by decide +kernel
theorem dX0_isOneFamily_17 : decode cX0_isOneFamily 17 = .ok (.iload_n 2, 1) := by decide +kernel
theorem dX0_isOneFamily_18 : decode cX0_isOneFamily 18 = .ok (.iload_n 3, 1) := by decide +kernel
theorem dX0_isOneFamily_19 : decode cX0_isOneFamily 19 = .ok (.aload_n 1, 1) := by decide +kernel
theorem dX0_isOneFamily_20 : decode cX0_isOneFamily 20 = .ok (.getfield 32, 3) := by decide +kernel
theorem dX0_isOneFamily_23 : decode cX0_isOneFamily 23 = .ok (.invokestatic 45, 3) := by decide +kernel
theorem dX0_isOneFamily_26 : decode cX0_isOneFamily 26 = .ok (.invokevirtual 52, 3) := by decide +kernel
theorem dX0_isOneFamily_29 : decode cX0_isOneFamily 29 = .ok (.iastore, 1) := by decide +kernel
theorem dX0_isOneFamily_30 : decode cX0_isOneFamily 30 = .ok (.iinc 3 1, 3) := by decide +kernel
theorem dX0_isOneFamily_33 : decode cX0_isOneFamily 33 = .ok (.goto (-31), 3) := by decide +kernel
theorem dX0_isOneFamily_36 : decode cX0_isOneFamily 36 = .ok (.aload_n 0, 1) := by decide +kernel
theorem dX0_isOneFamily_37 : decode cX0_isOneFamily 37 = .ok (.iconst 0, 1) := by decide +kernel
theorem dX0_isOneFamily_38 : decode cX0_isOneFamily 38 = .ok (.aload_n 1, 1) := by decide +kernel
theorem dX0_isOneFamily_39 : decode cX0_isOneFamily 39 = .ok (.getfield 32, 3) := by decide +kernel
theorem dX0_isOneFamily_42 : decode cX0_isOneFamily 42 = .ok (.invokevirtual 55, 3) := by decide +kernel
theorem dX0_isOneFamily_45 : decode cX0_isOneFamily 45 = .ok (.iconst 1, 1) := by decide +kernel
theorem dX0_isOneFamily_46 : decode cX0_isOneFamily 46 = .ok (.aload_n 1, 1) := by decide +kernel
theorem dX0_isOneFamily_47 : decode cX0_isOneFamily 47 = .ok (.getfield 32, 3) := by decide +kernel
theorem dX0_isOneFamily_50 : decode cX0_isOneFamily 50 = .ok (.ishl, 1) := by decide +kernel
theorem dX0_isOneFamily_51 : decode cX0_isOneFamily 51 = .ok (.iconst 1, 1) := by decide +kernel
theorem dX0_isOneFamily_52 : decode cX0_isOneFamily 52 = .ok (.isub, 1) := by decide +kernel
theorem dX0_isOneFamily_53 : decode cX0_isOneFamily 53 = .ok (.if_icmp .ne 7, 3) := by decide +kernel
theorem dX0_isOneFamily_56 : decode cX0_isOneFamily 56 = .ok (.iconst 1, 1) := by decide +kernel
theorem dX0_isOneFamily_57 : decode cX0_isOneFamily 57 = .ok (.goto 4, 3) := by decide +kernel
theorem dX0_isOneFamily_60 : decode cX0_isOneFamily 60 = .ok (.iconst 0, 1) := by decide +kernel
theorem dX0_isOneFamily_61 : decode cX0_isOneFamily 61 = .ok (.ireturn, 1) := by decide +kernel
theorem dX1_init_0 : decode cX1_init 0 = .ok (.aload_n 0, 1) := by decide +kernel
theorem dX1_init_1 : decode cX1_init 1 = .ok (.invokespecial 3, 3) := by decide +kernel
theorem dX1_init_4 : decode cX1_init 4 = .ok (.aload_n 0, 1) := by decide +kernel
theorem dX1_init_5 : decode cX1_init 5 = .ok (.iconst 5, 1) := by decide +kernel
theorem dX1_init_6 : decode cX1_init 6 = .ok (.newarray .int, 2) := by decide +kernel
theorem dX1_init_8 : decode cX1_init 8 = .ok (.putfield 9, 3) := by decide +kernel
theorem dX1_init_11 : decode cX1_init 11 = .ok (.aload_n 0, 1) := by decide +kernel
theorem dX1_init_12 : decode cX1_init 12 = .ok (.iconst 5, 1) := by decide +kernel
theorem dX1_init_13 : decode cX1_init 13 = .ok (.newarray .int, 2) := by decide +kernel
theorem dX1_init_15 : decode cX1_init 15 = .ok (.putfield 15, 3) := by decide +kernel
theorem dX1_init_18 : decode cX1_init 18 = .ok (.aload_n 0, 1) := by decide +kernel
theorem dX1_init_19 : decode cX1_init 19 = .ok (.iconst 5, 1) := by decide +kernel
theorem dX1_init_20 : decode cX1_init 20 = .ok (.newarray .int, 2) := by decide +kernel
theorem dX1_init_22 : decode cX1_init 22 = .ok (.putfield 18, 3) := by decide +kernel
theorem dX1_init_25 : decode cX1_init 25 = .ok (.aload_n 0, 1) := by decide +kernel
theorem dX1_init_26 : decode cX1_init 26 = .ok (.iconst 5, 1) := by decide +kernel
theorem dX1_init_27 : decode cX1_init 27 = .ok (.newarray .int, 2) := by decide +kernel
theorem dX1_init_29 : decode cX1_init 29 = .ok (.putfield 21, 3) := by decide +kernel
theorem dX1_init_32 : decode cX1_init 32 = .ok (.aload_n 0, 1) := by decide +kernel
theorem dX1_init_33 : decode cX1_init 33 = .ok (.iconst 0, 1) := by decide +kernel
theorem dX1_init_34 : decode cX1_init 34 = .ok (.putfield 24, 3) := by decide +kernel
theorem dX1_init_37 : decode cX1_init 37 = .ok (.aload_n 0, 1) := by decide +kernel
theorem dX1_init_38 : decode cX1_init 38 = .ok (.iconst 0, 1) := by decide +kernel
theorem dX1_init_39 : decode cX1_init 39 = .ok (.putfield 28, 3) := by decide +kernel
theorem dX1_init_42 : decode cX1_init 42 = .ok (.aload_n 0, 1) := by decide +kernel
theorem dX1_init_43 : decode cX1_init 43 = .ok (.iconst 0, 1) := by decide +kernel
theorem dX1_init_44 : decode cX1_init 44 = .ok (.putfield 31, 3) := by decide +kernel
theorem dX1_init_47 : decode cX1_init 47 = .ok (.return_, 1) := by decide +kernel
theorem dX1_isNone_0 : decode cX1_isNone 0 = .ok (.aload_n 0, 1) := by decide +kernel
theorem dX1_isNone_1 : decode cX1_isNone 1 = .ok (.getfield 24, 3) := by decide +kernel
theorem dX1_isNone_4 : decode cX1_isNone 4 = .ok (.ifCond .ne 7, 3) := by decide +kernel
theorem dX1_isNone_7 : decode cX1_isNone 7 = .ok (.iconst 1, 1) := by decide +kernel
theorem dX1_isNone_8 : decode cX1_isNone 8 = .ok (.goto 4, 3) := by decide +kernel
theorem dX1_isNone_11 : decode cX1_isNone 11 = .ok (.iconst 0, 1) := by decide +kernel
theorem dX1_isNone_12 : decode cX1_isNone 12 = .ok (.ireturn, 1) := by decide +kernel
set_option maxRecDepth 20000 in
theorem ggX1_hasBell_X6_isBelow : GoodIn wsX1_hasBell wsX6_isBelow := goodIn_r _ [4] (by decide +kernel) (by decide +kernel)
set_option maxRecDepth 20000 in
theorem gX1_hasBell_X6_isBelow_n34 : GoodIn wsX1_hasBell (wsX6_isBelow) := ggX1_hasBell_X6_isBelow
theorem dX1_hasBell_0 : decode cX1_hasBell 0 = .ok (.iload_n 1, 1) := by decide +kernel
theorem dX1_hasBell_1 : decode cX1_hasBell 1 = .ok (.aload_n 0, 1) := by decide +kernel
theorem dX1_hasBell_2 : decode cX1_hasBell 2 = .ok (.getfield 24, 3) := by decide +kernel
theorem dX1_hasBell_5 : decode cX1_hasBell 5 = .ok (.invokestatic 34, 3) := by decide +kernel
theorem dX1_hasBell_8 : decode cX1_hasBell 8 = .ok (.ireturn, 1) := by decide +kernel
set_option maxRecDepth 20000 in
theorem ggX1_hasAll_X6_isBelow : GoodIn wsX1_hasAll wsX6_isBelow := goodIn_r _ [4] (by decide +kernel) (by decide +kernel)
set_option maxRecDepth 20000 in
theorem gX1_hasAll_X6_isBelow_n34 : GoodIn wsX1_hasAll (wsX6_isBelow) := ggX1_hasAll_X6_isBelow
theorem dX1_hasAll_0 : decode cX1_hasAll 0 = .ok (.iload_n 1, 1) := by decide +kernel
theorem dX1_hasAll_1 : decode cX1_hasAll 1 = .ok (.iconst 1, 1) := by decide +kernel
theorem dX1_hasAll_2 : decode cX1_hasAll 2 = .ok (.aload_n 0, 1) := by decide +kernel
theorem dX1_hasAll_3 : decode cX1_hasAll 3 = .ok (.getfield 24, 3) := by decide +kernel
theorem dX1_hasAll_6 : decode cX1_hasAll 6 = .ok (.ishl, 1) := by decide +kernel
theorem dX1_hasAll_7 : decode cX1_hasAll 7 = .ok (.invokestatic 34, 3) := by decide +kernel
theorem dX1_hasAll_10 : decode cX1_hasAll 10 = .ok (.ireturn, 1) := by decide +kernel
set_option maxRecDepth 20000 in
theorem ggX1_settle_X4_bellsOf : GoodIn wsX1_settle wsX4_bellsOf := goodIn_r _ [12] (by decide +kernel) (by decide +kernel)
set_option maxRecDepth 20000 in
theorem gX1_settle_X4_bellsOf : GoodIn wsX1_settle (va_wsS RX1 43 yX4_bellsOf wsX4_bellsOf) := goodIn_app (goodIn_of _ (by decide +kernel)) ggX1_settle_X4_bellsOf
set_option maxRecDepth 20000 in
theorem ggX1_settle_X4_startOf : GoodIn wsX1_settle wsX4_startOf := goodIn_r _ [15] (by decide +kernel) (by decide +kernel)
set_option maxRecDepth 20000 in
theorem gX1_settle_X4_startOf : GoodIn wsX1_settle (va_wsS RX1 49 yX4_startOf wsX4_startOf) := goodIn_app (goodIn_of _ (by decide +kernel)) ggX1_settle_X4_startOf
set_option maxRecDepth 20000 in
theorem ggX1_settle_X4_kindBy : GoodIn wsX1_settle wsX4_kindBy := goodIn_r _ [18] (by decide +kernel) (by decide +kernel)
set_option maxRecDepth 20000 in
theorem gX1_settle_X4_kindBy : GoodIn wsX1_settle (va_wsS RX1 52 yX4_kindBy wsX4_kindBy) := goodIn_app (goodIn_of _ (by decide +kernel)) ggX1_settle_X4_kindBy
theorem dX1_settle_0 : decode cX1_settle 0 = .ok (.aload_n 0, 1) := by decide +kernel
theorem dX1_settle_1 : decode cX1_settle 1 = .ok (.aload_n 1, 1) := by decide +kernel
theorem dX1_settle_2 : decode cX1_settle 2 = .ok (.getfield 38, 3) := by decide +kernel
theorem dX1_settle_5 : decode cX1_settle 5 = .ok (.iload_n 2, 1) := by decide +kernel
theorem dX1_settle_6 : decode cX1_settle 6 = .ok (.iconst 1, 1) := by decide +kernel
theorem dX1_settle_7 : decode cX1_settle 7 = .ok (.iadd, 1) := by decide +kernel
theorem dX1_settle_8 : decode cX1_settle 8 = .ok (.iaload, 1) := by decide +kernel
theorem dX1_settle_9 : decode cX1_settle 9 = .ok (.bipush 48, 2) := by decide +kernel
theorem dX1_settle_11 : decode cX1_settle 11 = .ok (.isub, 1) := by decide +kernel
theorem dX1_settle_12 : decode cX1_settle 12 = .ok (.putfield 28, 3) := by decide +kernel
theorem dX1_settle_15 : decode cX1_settle 15 = .ok (.aload_n 0, 1) := by decide +kernel
theorem dX1_settle_16 : decode cX1_settle 16 = .ok (.aload_n 1, 1) := by decide +kernel
theorem dX1_settle_17 : decode cX1_settle 17 = .ok (.getfield 38, 3) := by decide +kernel
theorem dX1_settle_20 : decode cX1_settle 20 = .ok (.iload_n 2, 1) := by decide +kernel
theorem dX1_settle_21 : decode cX1_settle 21 = .ok (.iconst 2, 1) := by decide +kernel
theorem dX1_settle_22 : decode cX1_settle 22 = .ok (.iadd, 1) := by decide +kernel
theorem dX1_settle_23 : decode cX1_settle 23 = .ok (.iaload, 1) := by decide +kernel
theorem dX1_settle_24 : decode cX1_settle 24 = .ok (.bipush 48, 2) := by decide +kernel
theorem dX1_settle_26 : decode cX1_settle 26 = .ok (.isub, 1) := by decide +kernel
theorem dX1_settle_27 : decode cX1_settle 27 = .ok (.putfield 31, 3) := by decide +kernel
theorem dX1_settle_30 : decode cX1_settle 30 = .ok (.aload_n 0, 1) := by decide +kernel
theorem dX1_settle_31 : decode cX1_settle 31 = .ok (.iload_n 3, 1) := by decide +kernel
theorem dX1_settle_32 : decode cX1_settle 32 = .ok (.invokestatic 43, 3) := by decide +kernel
theorem dX1_settle_35 : decode cX1_settle 35 = .ok (.putfield 24, 3) := by decide +kernel
theorem dX1_settle_38 : decode cX1_settle 38 = .ok (.iconst 0, 1) := by decide +kernel
theorem dX1_settle_39 : decode cX1_settle 39 = .ok (.istore 4, 2) := by decide +kernel
theorem dX1_settle_41 : decode cX1_settle 41 = .ok (.iload 4, 2) := by decide +kernel
theorem dX1_settle_43 : decode cX1_settle 43 = .ok (.aload_n 0, 1) := by decide +kernel
theorem dX1_settle_44 : decode cX1_settle 44 = .ok (.getfield 24, 3) := by decide +kernel
theorem dX1_settle_47 : decode cX1_settle 47 = .ok (.if_icmp .ge 94, 3) := by decide +kernel
theorem dX1_settle_50 : decode cX1_settle 50 = .ok (.iload_n 2, 1) := by decide +kernel
theorem dX1_settle_51 : decode cX1_settle 51 = .ok (.iload 4, 2) := by decide +kernel
theorem dX1_settle_53 : decode cX1_settle 53 = .ok (.invokestatic 49, 3) := by decide +kernel
theorem dX1_settle_56 : decode cX1_settle 56 = .ok (.iadd, 1) := by decide +kernel
theorem dX1_settle_57 : decode cX1_settle 57 = .ok (.istore 5, 2) := by decide +kernel
theorem dX1_settle_59 : decode cX1_settle 59 = .ok (.aload_n 0, 1) := by decide +kernel
theorem dX1_settle_60 : decode cX1_settle 60 = .ok (.getfield 9, 3) := by decide +kernel
theorem dX1_settle_63 : decode cX1_settle 63 = .ok (.iload 4, 2) := by decide +kernel
theorem dX1_settle_65 : decode cX1_settle 65 = .ok (.aload_n 1, 1) := by decide +kernel
theorem dX1_settle_66 : decode cX1_settle 66 = .ok (.getfield 38, 3) := by decide +kernel
theorem dX1_settle_69 : decode cX1_settle 69 = .ok (.iload 5, 2) := by decide +kernel
theorem dX1_settle_71 : decode cX1_settle 71 = .ok (.iconst 1, 1) := by decide +kernel
theorem dX1_settle_72 : decode cX1_settle 72 = .ok (.iadd, 1) := by decide +kernel
theorem dX1_settle_73 : decode cX1_settle 73 = .ok (.iaload, 1) := by decide +kernel
theorem dX1_settle_74 : decode cX1_settle 74 = .ok (.invokestatic 52, 3) := by decide +kernel
theorem dX1_settle_77 : decode cX1_settle 77 = .ok (.iastore, 1) := by decide +kernel
theorem dX1_settle_78 : decode cX1_settle 78 = .ok (.aload_n 0, 1) := by decide +kernel
theorem dX1_settle_79 : decode cX1_settle 79 = .ok (.getfield 15, 3) := by decide +kernel
theorem dX1_settle_82 : decode cX1_settle 82 = .ok (.iload 4, 2) := by decide +kernel
theorem dX1_settle_84 : decode cX1_settle 84 = .ok (.aload_n 1, 1) := by decide +kernel
theorem dX1_settle_85 : decode cX1_settle 85 = .ok (.getfield 38, 3) := by decide +kernel
theorem dX1_settle_88 : decode cX1_settle 88 = .ok (.iload 5, 2) := by decide +kernel
theorem dX1_settle_90 : decode cX1_settle 90 = .ok (.iconst 2, 1) := by decide +kernel
theorem dX1_settle_91 : decode cX1_settle 91 = .ok (.iadd, 1) := by decide +kernel
theorem dX1_settle_92 : decode cX1_settle 92 = .ok (.iaload, 1) := by decide +kernel
theorem dX1_settle_93 : decode cX1_settle 93 = .ok (.bipush 48, 2) := by decide +kernel
theorem dX1_settle_95 : decode cX1_settle 95 = .ok (.isub, 1) := by decide +kernel
theorem dX1_settle_96 : decode cX1_settle 96 = .ok (.iastore, 1) := by decide +kernel
theorem dX1_settle_97 : decode cX1_settle 97 = .ok (.aload_n 0, 1) := by decide +kernel
theorem dX1_settle_98 : decode cX1_settle 98 = .ok (.getfield 18, 3) := by decide +kernel
theorem dX1_settle_101 : decode cX1_settle 101 = .ok (.iload 4, 2) := by decide +kernel
theorem dX1_settle_103 : decode cX1_settle 103 = .ok (.aload_n 1, 1) := by decide +kernel
theorem dX1_settle_104 : decode cX1_settle 104 = .ok (.getfield 38, 3) := by decide +kernel
theorem dX1_settle_107 : decode cX1_settle 107 = .ok (.iload 5, 2) := by decide +kernel
theorem dX1_settle_109 : decode cX1_settle 109 = .ok (.iconst 3, 1) := by decide +kernel
theorem dX1_settle_110 : decode cX1_settle 110 = .ok (.iadd, 1) := by decide +kernel
theorem dX1_settle_111 : decode cX1_settle 111 = .ok (.iaload, 1) := by decide +kernel
theorem dX1_settle_112 : decode cX1_settle 112 = .ok (.bipush 48, 2) := by decide +kernel
theorem dX1_settle_114 : decode cX1_settle 114 = .ok (.isub, 1) := by decide +kernel
theorem dX1_settle_115 : decode cX1_settle 115 = .ok (.iastore, 1) := by decide +kernel
theorem dX1_settle_116 : decode cX1_settle 116 = .ok (.aload_n 0, 1) := by decide +kernel
theorem dX1_settle_117 : decode cX1_settle 117 = .ok (.getfield 21, 3) := by decide +kernel
theorem dX1_settle_120 : decode cX1_settle 120 = .ok (.iload 4, 2) := by decide +kernel
theorem dX1_settle_122 : decode cX1_settle 122 = .ok (.aload_n 1, 1) := by decide +kernel
theorem dX1_settle_123 : decode cX1_settle 123 = .ok (.getfield 38, 3) := by decide +kernel
theorem dX1_settle_126 : decode cX1_settle 126 = .ok (.iload 5, 2) := by decide +kernel
theorem dX1_settle_128 : decode cX1_settle 128 = .ok (.iconst 4, 1) := by decide +kernel
theorem dX1_settle_129 : decode cX1_settle 129 = .ok (.iadd, 1) := by decide +kernel
theorem dX1_settle_130 : decode cX1_settle 130 = .ok (.iaload, 1) := by decide +kernel
theorem dX1_settle_131 : decode cX1_settle 131 = .ok (.bipush 48, 2) := by decide +kernel
theorem dX1_settle_133 : decode cX1_settle 133 = .ok (.isub, 1) := by decide +kernel
theorem dX1_settle_134 : decode cX1_settle 134 = .ok (.iastore, 1) := by decide +kernel
theorem dX1_settle_135 : decode cX1_settle 135 = .ok (.iinc 4 1, 3) := by decide +kernel
theorem dX1_settle_138 : decode cX1_settle 138 = .ok (.goto (-97), 3) := by decide +kernel
theorem dX1_settle_141 : decode cX1_settle 141 = .ok (.return_, 1) := by decide +kernel
set_option maxRecDepth 20000 in
theorem ggX1_soundIn_X6_soundOf : GoodIn wsX1_soundIn wsX6_soundOf := goodIn_r _ [6, 7, 8, 9, 10] (by decide +kernel) (by decide +kernel)
set_option maxRecDepth 20000 in
theorem gX1_soundIn_X6_soundOf_n55 : GoodIn wsX1_soundIn (wsX6_soundOf) := ggX1_soundIn_X6_soundOf
theorem dX1_soundIn_0 : decode cX1_soundIn 0 = .ok (.aload_n 0, 1) := by decide +kernel
theorem dX1_soundIn_1 : decode cX1_soundIn 1 = .ok (.getfield 9, 3) := by decide +kernel
theorem dX1_soundIn_4 : decode cX1_soundIn 4 = .ok (.iload_n 1, 1) := by decide +kernel
theorem dX1_soundIn_5 : decode cX1_soundIn 5 = .ok (.iaload, 1) := by decide +kernel
theorem dX1_soundIn_6 : decode cX1_soundIn 6 = .ok (.aload_n 0, 1) := by decide +kernel
theorem dX1_soundIn_7 : decode cX1_soundIn 7 = .ok (.getfield 15, 3) := by decide +kernel
theorem dX1_soundIn_10 : decode cX1_soundIn 10 = .ok (.iload_n 1, 1) := by decide +kernel
theorem dX1_soundIn_11 : decode cX1_soundIn 11 = .ok (.iaload, 1) := by decide +kernel
theorem dX1_soundIn_12 : decode cX1_soundIn 12 = .ok (.iload_n 2, 1) := by decide +kernel
theorem dX1_soundIn_13 : decode cX1_soundIn 13 = .ok (.aload_n 0, 1) := by decide +kernel
theorem dX1_soundIn_14 : decode cX1_soundIn 14 = .ok (.getfield 28, 3) := by decide +kernel
theorem dX1_soundIn_17 : decode cX1_soundIn 17 = .ok (.invokestatic 55, 3) := by decide +kernel
theorem dX1_soundIn_20 : decode cX1_soundIn 20 = .ok (.ireturn, 1) := by decide +kernel
set_option maxRecDepth 20000 in
theorem ggX1_soundNow_X1_soundIn : GoodIn wsX1_soundNow wsX1_soundIn := goodIn_r _ [6, 7, 8, 9, 10, 11, 12, 13, 14, 15, 16, 17, 18, 19, 20, 21, 22, 23] (by decide +kernel) (by decide +kernel)
set_option maxRecDepth 20000 in
theorem gX1_soundNow_X1_soundIn : GoodIn wsX1_soundNow (wsV RX1 59 RX1 yX1_soundIn wsX1_soundIn) := goodIn_app (goodIn_of _ (by decide +kernel)) ggX1_soundNow_X1_soundIn
theorem dX1_soundNow_0 : decode cX1_soundNow 0 = .ok (.aload_n 0, 1) := by decide +kernel
theorem dX1_soundNow_1 : decode cX1_soundNow 1 = .ok (.iload_n 1, 1) := by decide +kernel
theorem dX1_soundNow_2 : decode cX1_soundNow 2 = .ok (.aload_n 0, 1) := by decide +kernel
theorem dX1_soundNow_3 : decode cX1_soundNow 3 = .ok (.getfield 21, 3) := by decide +kernel
theorem dX1_soundNow_6 : decode cX1_soundNow 6 = .ok (.iload_n 1, 1) := by decide +kernel
theorem dX1_soundNow_7 : decode cX1_soundNow 7 = .ok (.iaload, 1) := by decide +kernel
theorem dX1_soundNow_8 : decode cX1_soundNow 8 = .ok (.invokevirtual 59, 3) := by decide +kernel
theorem dX1_soundNow_11 : decode cX1_soundNow 11 = .ok (.ireturn, 1) := by decide +kernel
set_option maxRecDepth 20000 in
theorem ggX1_soundSet_X6_soundOf : GoodIn wsX1_soundSet wsX6_soundOf := goodIn_r _ [4, 5, 6, 7, 8] (by decide +kernel) (by decide +kernel)
set_option maxRecDepth 20000 in
theorem gX1_soundSet_X6_soundOf_n55 : GoodIn wsX1_soundSet (wsX6_soundOf) := ggX1_soundSet_X6_soundOf
theorem dX1_soundSet_0 : decode cX1_soundSet 0 = .ok (.iconst 0, 1) := by decide +kernel
theorem dX1_soundSet_1 : decode cX1_soundSet 1 = .ok (.istore_n 3, 1) := by decide +kernel
theorem dX1_soundSet_2 : decode cX1_soundSet 2 = .ok (.iconst 0, 1) := by decide +kernel
theorem dX1_soundSet_3 : decode cX1_soundSet 3 = .ok (.istore 4, 2) := by decide +kernel
theorem dX1_soundSet_5 : decode cX1_soundSet 5 = .ok (.iload 4, 2) := by decide +kernel
theorem dX1_soundSet_7 : decode cX1_soundSet 7 = .ok (.iconst 4, 1) := by decide +kernel
theorem dX1_soundSet_8 : decode cX1_soundSet 8 = .ok (.if_icmp .ge 25, 3) := by decide +kernel
theorem dX1_soundSet_11 : decode cX1_soundSet 11 = .ok (.iload_n 3, 1) := by decide +kernel
theorem dX1_soundSet_12 : decode cX1_soundSet 12 = .ok (.iconst 1, 1) := by decide +kernel
theorem dX1_soundSet_13 : decode cX1_soundSet 13 = .ok (.iload_n 1, 1) := by decide +kernel
theorem dX1_soundSet_14 : decode cX1_soundSet 14 = .ok (.iload_n 2, 1) := by decide +kernel
theorem dX1_soundSet_15 : decode cX1_soundSet 15 = .ok (.iload 4, 2) := by decide +kernel
theorem dX1_soundSet_17 : decode cX1_soundSet 17 = .ok (.aload_n 0, 1) := by decide +kernel
theorem dX1_soundSet_18 : decode cX1_soundSet 18 = .ok (.getfield 28, 3) := by decide +kernel
theorem dX1_soundSet_21 : decode cX1_soundSet 21 = .ok (.invokestatic 55, 3) := by decide +kernel
theorem dX1_soundSet_24 : decode cX1_soundSet 24 = .ok (.ishl, 1) := by decide +kernel
theorem dX1_soundSet_25 : decode cX1_soundSet 25 = .ok (.ior, 1) := by decide +kernel
theorem dX1_soundSet_26 : decode cX1_soundSet 26 = .ok (.istore_n 3, 1) := by decide +kernel
theorem dX1_soundSet_27 : decode cX1_soundSet 27 = .ok (.iinc 4 1, 3) := by decide +kernel
theorem dX1_soundSet_30 : decode cX1_soundSet 30 = .ok (.goto (-25), 3) := by decide +kernel
theorem dX1_soundSet_33 : decode cX1_soundSet 33 = .ok (.iload_n 3, 1) := by decide +kernel
theorem dX1_soundSet_34 : decode cX1_soundSet 34 = .ok (.ireturn, 1) := by decide +kernel
theorem dX1_stepsFrom_0 : decode cX1_stepsFrom 0 = .ok (.iload_n 1, 1) := by decide +kernel
theorem dX1_stepsFrom_1 : decode cX1_stepsFrom 1 = .ok (.iload_n 2, 1) := by decide +kernel
theorem dX1_stepsFrom_2 : decode cX1_stepsFrom 2 = .ok (.isub, 1) := by decide +kernel
theorem dX1_stepsFrom_3 : decode cX1_stepsFrom 3 = .ok (.invokestatic 63, 3) := by decide +kernel
theorem dX1_stepsFrom_6 : decode cX1_stepsFrom 6 = .ok (.aload_n 0, 1) := by decide +kernel
theorem dX1_stepsFrom_7 : decode cX1_stepsFrom 7 = .ok (.getfield 31, 3) := by decide +kernel
theorem dX1_stepsFrom_10 : decode cX1_stepsFrom 10 = .ok (.isub, 1) := by decide +kernel
theorem dX1_stepsFrom_11 : decode cX1_stepsFrom 11 = .ok (.iconst 0, 1) := by decide +kernel
theorem dX1_stepsFrom_12 : decode cX1_stepsFrom 12 = .ok (.invokestatic 68, 3) := by decide +kernel
theorem dX1_stepsFrom_15 : decode cX1_stepsFrom 15 = .ok (.ireturn, 1) := by decide +kernel
set_option maxRecDepth 20000 in
theorem ggX1_isHeard_X1_stepsFrom : GoodIn wsX1_isHeard wsX1_stepsFrom := goodIn_r _ [6, 7, 8, 9, 10, 11, 12, 13, 14, 15, 16, 17, 18, 19, 20, 21] (by decide +kernel) (by decide +kernel)
set_option maxRecDepth 20000 in
theorem gX1_isHeard_X1_stepsFrom : GoodIn wsX1_isHeard (wsV RX1 71 RX1 yX1_stepsFrom wsX1_stepsFrom) := goodIn_app (goodIn_of _ (by decide +kernel)) ggX1_isHeard_X1_stepsFrom
theorem dX1_isHeard_0 : decode cX1_isHeard 0 = .ok (.aload_n 0, 1) := by decide +kernel
theorem dX1_isHeard_1 : decode cX1_isHeard 1 = .ok (.aload_n 0, 1) := by decide +kernel
theorem dX1_isHeard_2 : decode cX1_isHeard 2 = .ok (.getfield 18, 3) := by decide +kernel
theorem dX1_isHeard_5 : decode cX1_isHeard 5 = .ok (.iload_n 1, 1) := by decide +kernel
theorem dX1_isHeard_6 : decode cX1_isHeard 6 = .ok (.iaload, 1) := by decide +kernel
theorem dX1_isHeard_7 : decode cX1_isHeard 7 = .ok (.iload_n 2, 1) := by decide +kernel
theorem dX1_isHeard_8 : decode cX1_isHeard 8 = .ok (.invokevirtual 71, 3) := by decide +kernel
theorem dX1_isHeard_11 : decode cX1_isHeard 11 = .ok (.ifCond .ne 7, 3) := by decide +kernel
theorem dX1_isHeard_14 : decode cX1_isHeard 14 = .ok (.iconst 1, 1) := by decide +kernel
theorem dX1_isHeard_15 : decode cX1_isHeard 15 = .ok (.goto 4, 3) := by decide +kernel
theorem dX1_isHeard_18 : decode cX1_isHeard 18 = .ok (.iconst 0, 1) := by decide +kernel
theorem dX1_isHeard_19 : decode cX1_isHeard 19 = .ok (.ireturn, 1) := by decide +kernel
set_option maxRecDepth 20000 in
theorem ggX1_heardFrom_X1_stepsFrom : GoodIn wsX1_heardFrom wsX1_stepsFrom := goodIn_r _ [6, 7, 8, 9, 10, 11, 12, 13, 14, 15, 16, 17, 18, 19, 20, 21] (by decide +kernel) (by decide +kernel)
set_option maxRecDepth 20000 in
theorem gX1_heardFrom_X1_stepsFrom : GoodIn wsX1_heardFrom (wsV RX1 71 RX1 yX1_stepsFrom wsX1_stepsFrom) := goodIn_app (goodIn_of _ (by decide +kernel)) ggX1_heardFrom_X1_stepsFrom
theorem dX1_heardFrom_0 : decode cX1_heardFrom 0 = .ok (.iconst 0, 1) := by decide +kernel
theorem dX1_heardFrom_1 : decode cX1_heardFrom 1 = .ok (.istore_n 3, 1) := by decide +kernel
theorem dX1_heardFrom_2 : decode cX1_heardFrom 2 = .ok (.iconst 0, 1) := by decide +kernel
theorem dX1_heardFrom_3 : decode cX1_heardFrom 3 = .ok (.istore 4, 2) := by decide +kernel
theorem dX1_heardFrom_5 : decode cX1_heardFrom 5 = .ok (.iload 4, 2) := by decide +kernel
theorem dX1_heardFrom_7 : decode cX1_heardFrom 7 = .ok (.aload_n 0, 1) := by decide +kernel
theorem dX1_heardFrom_8 : decode cX1_heardFrom 8 = .ok (.getfield 24, 3) := by decide +kernel
theorem dX1_heardFrom_11 : decode cX1_heardFrom 11 = .ok (.if_icmp .ge 28, 3) := by decide +kernel
theorem dX1_heardFrom_14 : decode cX1_heardFrom 14 = .ok (.aload_n 0, 1) := by decide +kernel
theorem dX1_heardFrom_15 : decode cX1_heardFrom 15 = .ok (.aload_n 1, 1) := by decide +kernel
theorem dX1_heardFrom_16 : decode cX1_heardFrom 16 = .ok (.iload 4, 2) := by decide +kernel
theorem dX1_heardFrom_18 : decode cX1_heardFrom 18 = .ok (.iaload, 1) := by decide +kernel
theorem dX1_heardFrom_19 : decode cX1_heardFrom 19 = .ok (.iload_n 2, 1) := by decide +kernel
theorem dX1_heardFrom_20 : decode cX1_heardFrom 20 = .ok (.invokevirtual 71, 3) := by decide +kernel
theorem dX1_heardFrom_23 : decode cX1_heardFrom 23 = .ok (.ifCond .ne 10, 3) := by decide +kernel
theorem dX1_heardFrom_26 : decode cX1_heardFrom 26 = .ok (.iload_n 3, 1) := by decide +kernel
theorem dX1_heardFrom_27 : decode cX1_heardFrom 27 = .ok (.iconst 1, 1) := by decide +kernel
theorem dX1_heardFrom_28 : decode cX1_heardFrom 28 = .ok (.iload 4, 2) := by decide +kernel
theorem dX1_heardFrom_30 : decode cX1_heardFrom 30 = .ok (.ishl, 1) := by decide +kernel
theorem dX1_heardFrom_31 : decode cX1_heardFrom 31 = .ok (.ior, 1) := by decide +kernel
theorem dX1_heardFrom_32 : decode cX1_heardFrom 32 = .ok (.istore_n 3, 1) := by decide +kernel
theorem dX1_heardFrom_33 : decode cX1_heardFrom 33 = .ok (.iinc 4 1, 3) := by decide +kernel
theorem dX1_heardFrom_36 : decode cX1_heardFrom 36 = .ok (.goto (-31), 3) := by decide +kernel
theorem dX1_heardFrom_39 : decode cX1_heardFrom 39 = .ok (.iload_n 3, 1) := by decide +kernel
theorem dX1_heardFrom_40 : decode cX1_heardFrom 40 = .ok (.ireturn, 1) := by decide +kernel
set_option maxRecDepth 20000 in
theorem ggX1_stepsToHear_X1_stepsFrom : GoodIn wsX1_stepsToHear wsX1_stepsFrom := goodIn_r _ [7, 8, 9, 10, 11, 12, 13, 14, 15, 16, 17, 18, 19, 20, 21, 22] (by decide +kernel) (by decide +kernel)
set_option maxRecDepth 20000 in
theorem gX1_stepsToHear_X1_stepsFrom : GoodIn wsX1_stepsToHear (wsV RX1 71 RX1 yX1_stepsFrom wsX1_stepsFrom) := goodIn_app (goodIn_of _ (by decide +kernel)) ggX1_stepsToHear_X1_stepsFrom
theorem dX1_stepsToHear_0 : decode cX1_stepsToHear 0 = .ok (.iconst 0, 1) := by decide +kernel
theorem dX1_stepsToHear_1 : decode cX1_stepsToHear 1 = .ok (.istore_n 3, 1) := by decide +kernel
theorem dX1_stepsToHear_2 : decode cX1_stepsToHear 2 = .ok (.iconst 0, 1) := by decide +kernel
theorem dX1_stepsToHear_3 : decode cX1_stepsToHear 3 = .ok (.istore 4, 2) := by decide +kernel
theorem dX1_stepsToHear_5 : decode cX1_stepsToHear 5 = .ok (.iload 4, 2) := by decide +kernel
theorem dX1_stepsToHear_7 : decode cX1_stepsToHear 7 = .ok (.aload_n 0, 1) := by decide +kernel
theorem dX1_stepsToHear_8 : decode cX1_stepsToHear 8 = .ok (.getfield 24, 3) := by decide +kernel
theorem dX1_stepsToHear_11 : decode cX1_stepsToHear 11 = .ok (.if_icmp .ge 34, 3) := by decide +kernel
theorem dX1_stepsToHear_14 : decode cX1_stepsToHear 14 = .ok (.iload_n 1, 1) := by decide +kernel
theorem dX1_stepsToHear_15 : decode cX1_stepsToHear 15 = .ok (.iload 4, 2) := by decide +kernel
theorem dX1_stepsToHear_17 : decode cX1_stepsToHear 17 = .ok (.ishr, 1) := by decide +kernel
theorem dX1_stepsToHear_18 : decode cX1_stepsToHear 18 = .ok (.iconst 1, 1) := by decide +kernel
theorem dX1_stepsToHear_19 : decode cX1_stepsToHear 19 = .ok (.iand, 1) := by decide +kernel
theorem dX1_stepsToHear_20 : decode cX1_stepsToHear 20 = .ok (.iconst 1, 1) := by decide +kernel
theorem dX1_stepsToHear_21 : decode cX1_stepsToHear 21 = .ok (.if_icmp .ne 18, 3) := by decide +kernel
theorem dX1_stepsToHear_24 : decode cX1_stepsToHear 24 = .ok (.iload_n 3, 1) := by decide +kernel
theorem dX1_stepsToHear_25 : decode cX1_stepsToHear 25 = .ok (.aload_n 0, 1) := by decide +kernel
theorem dX1_stepsToHear_26 : decode cX1_stepsToHear 26 = .ok (.aload_n 0, 1) := by decide +kernel
theorem dX1_stepsToHear_27 : decode cX1_stepsToHear 27 = .ok (.getfield 18, 3) := by decide +kernel
theorem dX1_stepsToHear_30 : decode cX1_stepsToHear 30 = .ok (.iload 4, 2) := by decide +kernel
theorem dX1_stepsToHear_32 : decode cX1_stepsToHear 32 = .ok (.iaload, 1) := by decide +kernel
theorem dX1_stepsToHear_33 : decode cX1_stepsToHear 33 = .ok (.iload_n 2, 1) := by decide +kernel
theorem dX1_stepsToHear_34 : decode cX1_stepsToHear 34 = .ok (.invokevirtual 71, 3) := by decide +kernel
theorem dX1_stepsToHear_37 : decode cX1_stepsToHear 37 = .ok (.iadd, 1) := by decide +kernel
theorem dX1_stepsToHear_38 : decode cX1_stepsToHear 38 = .ok (.istore_n 3, 1) := by decide +kernel
theorem dX1_stepsToHear_39 : decode cX1_stepsToHear 39 = .ok (.iinc 4 1, 3) := by decide +kernel
theorem dX1_stepsToHear_42 : decode cX1_stepsToHear 42 = .ok (.goto (-37), 3) := by decide +kernel
theorem dX1_stepsToHear_45 : decode cX1_stepsToHear 45 = .ok (.iload_n 3, 1) := by decide +kernel
theorem dX1_stepsToHear_46 : decode cX1_stepsToHear 46 = .ok (.ireturn, 1) := by decide +kernel
set_option maxRecDepth 20000 in
theorem ggX1_moodsSounding_X1_soundIn : GoodIn wsX1_moodsSounding wsX1_soundIn := goodIn_r _ [5, 6, 7, 8, 9, 10, 11, 12, 13, 14, 15, 16, 17, 18, 19, 20, 21, 22] (by decide +kernel) (by decide +kernel)
set_option maxRecDepth 20000 in
theorem gX1_moodsSounding_X1_soundIn : GoodIn wsX1_moodsSounding (wsV RX1 59 RX1 yX1_soundIn wsX1_soundIn) := goodIn_app (goodIn_of _ (by decide +kernel)) ggX1_moodsSounding_X1_soundIn
theorem dX1_moodsSounding_0 : decode cX1_moodsSounding 0 = .ok (.iconst 0, 1) := by decide +kernel
theorem dX1_moodsSounding_1 : decode cX1_moodsSounding 1 = .ok (.istore_n 3, 1) := by decide +kernel
theorem dX1_moodsSounding_2 : decode cX1_moodsSounding 2 = .ok (.iconst 0, 1) := by decide +kernel
theorem dX1_moodsSounding_3 : decode cX1_moodsSounding 3 = .ok (.istore 4, 2) := by decide +kernel
theorem dX1_moodsSounding_5 : decode cX1_moodsSounding 5 = .ok (.iload 4, 2) := by decide +kernel
theorem dX1_moodsSounding_7 : decode cX1_moodsSounding 7 = .ok (.iconst 4, 1) := by decide +kernel
theorem dX1_moodsSounding_8 : decode cX1_moodsSounding 8 = .ok (.if_icmp .ge 23, 3) := by decide +kernel
theorem dX1_moodsSounding_11 : decode cX1_moodsSounding 11 = .ok (.aload_n 0, 1) := by decide +kernel
theorem dX1_moodsSounding_12 : decode cX1_moodsSounding 12 = .ok (.iload_n 1, 1) := by decide +kernel
theorem dX1_moodsSounding_13 : decode cX1_moodsSounding 13 = .ok (.iload 4, 2) := by decide +kernel
theorem dX1_moodsSounding_15 : decode cX1_moodsSounding 15 = .ok (.invokevirtual 59, 3) := by decide +kernel
theorem dX1_moodsSounding_18 : decode cX1_moodsSounding 18 = .ok (.iload_n 2, 1) := by decide +kernel
theorem dX1_moodsSounding_19 : decode cX1_moodsSounding 19 = .ok (.if_icmp .ne 6, 3) := by decide +kernel
theorem dX1_moodsSounding_22 : decode cX1_moodsSounding 22 = .ok (.iinc 3 1, 3) := by decide +kernel
theorem dX1_moodsSounding_25 : decode cX1_moodsSounding 25 = .ok (.iinc 4 1, 3) := by decide +kernel
theorem dX1_moodsSounding_28 : decode cX1_moodsSounding 28 = .ok (.goto (-23), 3) := by decide +kernel
theorem dX1_moodsSounding_31 : decode cX1_moodsSounding 31 = .ok (.iload_n 3, 1) := by decide +kernel
theorem dX1_moodsSounding_32 : decode cX1_moodsSounding 32 = .ok (.ireturn, 1) := by decide +kernel
theorem dX2_init_0 : decode cX2_init 0 = .ok (.aload_n 0, 1) := by decide +kernel
theorem dX2_init_1 : decode cX2_init 1 = .ok (.invokespecial 3, 3) := by decide +kernel
theorem dX2_init_4 : decode cX2_init 4 = .ok (.aload_n 0, 1) := by decide +kernel
theorem dX2_init_5 : decode cX2_init 5 = .ok (.bipush 8, 2) := by decide +kernel
theorem dX2_init_7 : decode cX2_init 7 = .ok (.newarray .int, 2) := by decide +kernel
theorem dX2_init_9 : decode cX2_init 9 = .ok (.putfield 9, 3) := by decide +kernel
theorem dX2_init_12 : decode cX2_init 12 = .ok (.aload_n 0, 1) := by decide +kernel
theorem dX2_init_13 : decode cX2_init 13 = .ok (.bipush 8, 2) := by decide +kernel
theorem dX2_init_15 : decode cX2_init 15 = .ok (.newarray .int, 2) := by decide +kernel
theorem dX2_init_17 : decode cX2_init 17 = .ok (.putfield 15, 3) := by decide +kernel
theorem dX2_init_20 : decode cX2_init 20 = .ok (.aload_n 0, 1) := by decide +kernel
theorem dX2_init_21 : decode cX2_init 21 = .ok (.bipush 8, 2) := by decide +kernel
theorem dX2_init_23 : decode cX2_init 23 = .ok (.newarray .int, 2) := by decide +kernel
theorem dX2_init_25 : decode cX2_init 25 = .ok (.putfield 18, 3) := by decide +kernel
theorem dX2_init_28 : decode cX2_init 28 = .ok (.aload_n 0, 1) := by decide +kernel
theorem dX2_init_29 : decode cX2_init 29 = .ok (.iconst 0, 1) := by decide +kernel
theorem dX2_init_30 : decode cX2_init 30 = .ok (.putfield 21, 3) := by decide +kernel
theorem dX2_init_33 : decode cX2_init 33 = .ok (.return_, 1) := by decide +kernel
theorem dX2_keep_0 : decode cX2_keep 0 = .ok (.aload_n 0, 1) := by decide +kernel
theorem dX2_keep_1 : decode cX2_keep 1 = .ok (.getfield 9, 3) := by decide +kernel
theorem dX2_keep_4 : decode cX2_keep 4 = .ok (.aload_n 0, 1) := by decide +kernel
theorem dX2_keep_5 : decode cX2_keep 5 = .ok (.getfield 21, 3) := by decide +kernel
theorem dX2_keep_8 : decode cX2_keep 8 = .ok (.iload_n 1, 1) := by decide +kernel
theorem dX2_keep_9 : decode cX2_keep 9 = .ok (.iastore, 1) := by decide +kernel
theorem dX2_keep_10 : decode cX2_keep 10 = .ok (.aload_n 0, 1) := by decide +kernel
theorem dX2_keep_11 : decode cX2_keep 11 = .ok (.getfield 15, 3) := by decide +kernel
theorem dX2_keep_14 : decode cX2_keep 14 = .ok (.aload_n 0, 1) := by decide +kernel
theorem dX2_keep_15 : decode cX2_keep 15 = .ok (.getfield 21, 3) := by decide +kernel
theorem dX2_keep_18 : decode cX2_keep 18 = .ok (.iload_n 2, 1) := by decide +kernel
theorem dX2_keep_19 : decode cX2_keep 19 = .ok (.iastore, 1) := by decide +kernel
theorem dX2_keep_20 : decode cX2_keep 20 = .ok (.aload_n 0, 1) := by decide +kernel
theorem dX2_keep_21 : decode cX2_keep 21 = .ok (.getfield 18, 3) := by decide +kernel
theorem dX2_keep_24 : decode cX2_keep 24 = .ok (.aload_n 0, 1) := by decide +kernel
theorem dX2_keep_25 : decode cX2_keep 25 = .ok (.getfield 21, 3) := by decide +kernel
theorem dX2_keep_28 : decode cX2_keep 28 = .ok (.iload_n 3, 1) := by decide +kernel
theorem dX2_keep_29 : decode cX2_keep 29 = .ok (.iastore, 1) := by decide +kernel
theorem dX2_keep_30 : decode cX2_keep 30 = .ok (.aload_n 0, 1) := by decide +kernel
theorem dX2_keep_31 : decode cX2_keep 31 = .ok (.dup, 1) := by decide +kernel
theorem dX2_keep_32 : decode cX2_keep 32 = .ok (.getfield 21, 3) := by decide +kernel
theorem dX2_keep_35 : decode cX2_keep 35 = .ok (.iconst 1, 1) := by decide +kernel
theorem dX2_keep_36 : decode cX2_keep 36 = .ok (.iadd, 1) := by decide +kernel
theorem dX2_keep_37 : decode cX2_keep 37 = .ok (.putfield 21, 3) := by decide +kernel
theorem dX2_keep_40 : decode cX2_keep 40 = .ok (.aload_n 0, 1) := by decide +kernel
theorem dX2_keep_41 : decode cX2_keep 41 = .ok (.getfield 21, 3) := by decide +kernel
theorem dX2_keep_44 : decode cX2_keep 44 = .ok (.iconst 1, 1) := by decide +kernel
theorem dX2_keep_45 : decode cX2_keep 45 = .ok (.isub, 1) := by decide +kernel
theorem dX2_keep_46 : decode cX2_keep 46 = .ok (.ireturn, 1) := by decide +kernel
set_option maxRecDepth 20000 in
theorem ggX2_areSo_X6_soundOf : GoodIn wsX2_areSo wsX6_soundOf := goodIn_r _ [9, 10, 11, 12, 13] (by decide +kernel) (by decide +kernel)
set_option maxRecDepth 20000 in
theorem gX2_areSo_X6_soundOf_n33 : GoodIn wsX2_areSo (wsX6_soundOf) := ggX2_areSo_X6_soundOf
theorem dX2_areSo_0 : decode cX2_areSo 0 = .ok (.iconst 0, 1) := by decide +kernel
theorem dX2_areSo_1 : decode cX2_areSo 1 = .ok (.istore 6, 2) := by decide +kernel
theorem dX2_areSo_3 : decode cX2_areSo 3 = .ok (.iload 6, 2) := by decide +kernel
theorem dX2_areSo_5 : decode cX2_areSo 5 = .ok (.aload_n 0, 1) := by decide +kernel
theorem dX2_areSo_6 : decode cX2_areSo 6 = .ok (.getfield 21, 3) := by decide +kernel
theorem dX2_areSo_9 : decode cX2_areSo 9 = .ok (.if_icmp .ge 85, 3) := by decide +kernel
theorem dX2_areSo_12 : decode cX2_areSo 12 = .ok (.aload_n 0, 1) := by decide +kernel
theorem dX2_areSo_13 : decode cX2_areSo 13 = .ok (.getfield 9, 3) := by decide +kernel
theorem dX2_areSo_16 : decode cX2_areSo 16 = .ok (.iload 6, 2) := by decide +kernel
theorem dX2_areSo_18 : decode cX2_areSo 18 = .ok (.iaload, 1) := by decide +kernel
theorem dX2_areSo_19 : decode cX2_areSo 19 = .ok (.istore 7, 2) := by decide +kernel
theorem dX2_areSo_21 : decode cX2_areSo 21 = .ok (.iload 7, 2) := by decide +kernel
theorem dX2_areSo_23 : decode cX2_areSo 23 = .ok (.iload_n 2, 1) := by decide +kernel
theorem dX2_areSo_24 : decode cX2_areSo 24 = .ok (.if_icmp .ne 7, 3) := by decide +kernel
theorem dX2_areSo_27 : decode cX2_areSo 27 = .ok (.iload_n 3, 1) := by decide +kernel
theorem dX2_areSo_28 : decode cX2_areSo 28 = .ok (.goto 10, 3) := by decide +kernel
theorem dX2_areSo_31 : decode cX2_areSo 31 = .ok (.aload_n 1, 1) := by decide +kernel
theorem dX2_areSo_32 : decode cX2_areSo 32 = .ok (.getfield 25, 3) := by decide +kernel
theorem dX2_areSo_35 : decode cX2_areSo 35 = .ok (.iload 7, 2) := by decide +kernel
theorem dX2_areSo_37 : decode cX2_areSo 37 = .ok (.iaload, 1) := by decide +kernel
theorem dX2_areSo_38 : decode cX2_areSo 38 = .ok (.istore 8, 2) := by decide +kernel
theorem dX2_areSo_40 : decode cX2_areSo 40 = .ok (.iload 7, 2) := by decide +kernel
theorem dX2_areSo_42 : decode cX2_areSo 42 = .ok (.iload_n 2, 1) := by decide +kernel
theorem dX2_areSo_43 : decode cX2_areSo 43 = .ok (.if_icmp .ne 8, 3) := by decide +kernel
theorem dX2_areSo_46 : decode cX2_areSo 46 = .ok (.iload 4, 2) := by decide +kernel
theorem dX2_areSo_48 : decode cX2_areSo 48 = .ok (.goto 10, 3) := by decide +kernel
theorem dX2_areSo_51 : decode cX2_areSo 51 = .ok (.aload_n 1, 1) := by decide +kernel
theorem dX2_areSo_52 : decode cX2_areSo 52 = .ok (.getfield 30, 3) := by decide +kernel
theorem dX2_areSo_55 : decode cX2_areSo 55 = .ok (.iload 7, 2) := by decide +kernel
theorem dX2_areSo_57 : decode cX2_areSo 57 = .ok (.iaload, 1) := by decide +kernel
theorem dX2_areSo_58 : decode cX2_areSo 58 = .ok (.istore 9, 2) := by decide +kernel
theorem dX2_areSo_60 : decode cX2_areSo 60 = .ok (.iload 8, 2) := by decide +kernel
theorem dX2_areSo_62 : decode cX2_areSo 62 = .ok (.iload 9, 2) := by decide +kernel
theorem dX2_areSo_64 : decode cX2_areSo 64 = .ok (.aload_n 0, 1) := by decide +kernel
theorem dX2_areSo_65 : decode cX2_areSo 65 = .ok (.getfield 15, 3) := by decide +kernel
theorem dX2_areSo_68 : decode cX2_areSo 68 = .ok (.iload 6, 2) := by decide +kernel
theorem dX2_areSo_70 : decode cX2_areSo 70 = .ok (.iaload, 1) := by decide +kernel
theorem dX2_areSo_71 : decode cX2_areSo 71 = .ok (.iload 5, 2) := by decide +kernel
theorem dX2_areSo_73 : decode cX2_areSo 73 = .ok (.invokestatic 33, 3) := by decide +kernel
theorem dX2_areSo_76 : decode cX2_areSo 76 = .ok (.aload_n 0, 1) := by decide +kernel
theorem dX2_areSo_77 : decode cX2_areSo 77 = .ok (.getfield 18, 3) := by decide +kernel
theorem dX2_areSo_80 : decode cX2_areSo 80 = .ok (.iload 6, 2) := by decide +kernel
theorem dX2_areSo_82 : decode cX2_areSo 82 = .ok (.iaload, 1) := by decide +kernel
theorem dX2_areSo_83 : decode cX2_areSo 83 = .ok (.if_icmp .eq 5, 3) := by decide +kernel
theorem dX2_areSo_86 : decode cX2_areSo 86 = .ok (.iconst 0, 1) := by decide +kernel
theorem dX2_areSo_87 : decode cX2_areSo 87 = .ok (.ireturn, 1) := by decide +kernel
theorem dX2_areSo_88 : decode cX2_areSo 88 = .ok (.iinc 6 1, 3) := by decide +kernel
theorem dX2_areSo_91 : decode cX2_areSo 91 = .ok (.goto (-88), 3) := by decide +kernel
theorem dX2_areSo_94 : decode cX2_areSo 94 = .ok (.iconst 1, 1) := by decide +kernel
theorem dX2_areSo_95 : decode cX2_areSo 95 = .ok (.ireturn, 1) := by decide +kernel
theorem dX3_init_0 : decode cX3_init 0 = .ok (.aload_n 0, 1) := by decide +kernel
theorem dX3_init_1 : decode cX3_init 1 = .ok (.invokespecial 3, 3) := by decide +kernel
theorem dX3_init_4 : decode cX3_init 4 = .ok (.aload_n 0, 1) := by decide +kernel
theorem dX3_init_5 : decode cX3_init 5 = .ok (.bipush 60, 2) := by decide +kernel
theorem dX3_init_7 : decode cX3_init 7 = .ok (.newarray .int, 2) := by decide +kernel
theorem dX3_init_9 : decode cX3_init 9 = .ok (.putfield 9, 3) := by decide +kernel
theorem dX3_init_12 : decode cX3_init 12 = .ok (.aload_n 0, 1) := by decide +kernel
theorem dX3_init_13 : decode cX3_init 13 = .ok (.bipush (-9), 2) := by decide +kernel
theorem dX3_init_15 : decode cX3_init 15 = .ok (.putfield 15, 3) := by decide +kernel
theorem dX3_init_18 : decode cX3_init 18 = .ok (.aload_n 0, 1) := by decide +kernel
theorem dX3_init_19 : decode cX3_init 19 = .ok (.iconst 0, 1) := by decide +kernel
theorem dX3_init_20 : decode cX3_init 20 = .ok (.putfield 19, 3) := by decide +kernel
theorem dX3_init_23 : decode cX3_init 23 = .ok (.return_, 1) := by decide +kernel
theorem dX3_hasNothing_0 : decode cX3_hasNothing 0 = .ok (.aload_n 0, 1) := by decide +kernel
