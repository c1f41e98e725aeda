theorem dX3_hasNothing_1 : decode cX3_hasNothing 1 = .ok (.getfield 15, 3) := by decide +kernel
theorem dX3_hasNothing_4 : decode cX3_hasNothing 4 = .ok (.bipush (-9), 2) := by decide +kernel
theorem dX3_hasNothing_6 : decode cX3_hasNothing 6 = .ok (.if_icmp .ne 7, 3) := by decide +kernel
theorem dX3_hasNothing_9 : decode cX3_hasNothing 9 = .ok (.iconst 1, 1) := by decide +kernel
theorem dX3_hasNothing_10 : decode cX3_hasNothing 10 = .ok (.goto 4, 3) := by decide +kernel
theorem dX3_hasNothing_13 : decode cX3_hasNothing 13 = .ok (.iconst 0, 1) := by decide +kernel
theorem dX3_hasNothing_14 : decode cX3_hasNothing 14 = .ok (.ireturn, 1) := by decide +kernel
theorem dX3_renew_0 : decode cX3_renew 0 = .ok (.aload_n 0, 1) := by decide +kernel
theorem dX3_renew_1 : decode cX3_renew 1 = .ok (.iload_n 1, 1) := by decide +kernel
theorem dX3_renew_2 : decode cX3_renew 2 = .ok (.putfield 15, 3) := by decide +kernel
theorem dX3_renew_5 : decode cX3_renew 5 = .ok (.aload_n 0, 1) := by decide +kernel
theorem dX3_renew_6 : decode cX3_renew 6 = .ok (.iload_n 2, 1) := by decide +kernel
theorem dX3_renew_7 : decode cX3_renew 7 = .ok (.putfield 19, 3) := by decide +kernel
theorem dX3_renew_10 : decode cX3_renew 10 = .ok (.iconst 0, 1) := by decide +kernel
theorem dX3_renew_11 : decode cX3_renew 11 = .ok (.istore_n 3, 1) := by decide +kernel
theorem dX3_renew_12 : decode cX3_renew 12 = .ok (.iload_n 3, 1) := by decide +kernel
theorem dX3_renew_13 : decode cX3_renew 13 = .ok (.bipush 60, 2) := by decide +kernel
theorem dX3_renew_15 : decode cX3_renew 15 = .ok (.if_icmp .ge 16, 3) := by decide +kernel
theorem dX3_renew_18 : decode cX3_renew 18 = .ok (.aload_n 0, 1) := by decide +kernel
theorem dX3_renew_19 : decode cX3_renew 19 = .ok (.getfield 9, 3) := by decide +kernel
theorem dX3_renew_22 : decode cX3_renew 22 = .ok (.iload_n 3, 1) := by decide +kernel
theorem dX3_renew_23 : decode cX3_renew 23 = .ok (.iconst 0, 1) := by decide +kernel
theorem dX3_renew_24 : decode cX3_renew 24 = .ok (.iastore, 1) := by decide +kernel
theorem dX3_renew_25 : decode cX3_renew 25 = .ok (.iinc 3 1, 3) := by decide +kernel
theorem dX3_renew_28 : decode cX3_renew 28 = .ok (.goto (-16), 3) := by decide +kernel
theorem dX3_renew_31 : decode cX3_renew 31 = .ok (.return_, 1) := by decide +kernel
theorem dX3_drop_0 : decode cX3_drop 0 = .ok (.aload_n 0, 1) := by decide +kernel
theorem dX3_drop_1 : decode cX3_drop 1 = .ok (.bipush (-9), 2) := by decide +kernel
theorem dX3_drop_3 : decode cX3_drop 3 = .ok (.putfield 15, 3) := by decide +kernel
theorem dX3_drop_6 : decode cX3_drop 6 = .ok (.aload_n 0, 1) := by decide +kernel
theorem dX3_drop_7 : decode cX3_drop 7 = .ok (.iconst 0, 1) := by decide +kernel
theorem dX3_drop_8 : decode cX3_drop 8 = .ok (.putfield 19, 3) := by decide +kernel
theorem dX3_drop_11 : decode cX3_drop 11 = .ok (.return_, 1) := by decide +kernel
set_option maxRecDepth 20000 in
theorem ggX3_faultAs_X3_hasNothing : GoodIn wsX3_faultAs wsX3_hasNothing := goodIn_r _ [6, 1, 7, 8, 9] (by decide +kernel) (by decide +kernel)
set_option maxRecDepth 20000 in
theorem gX3_faultAs_X3_hasNothing : GoodIn wsX3_faultAs (wsV RX3 22 RX3 yX3_hasNothing wsX3_hasNothing) := goodIn_app (goodIn_of _ (by decide +kernel)) ggX3_faultAs_X3_hasNothing
theorem dX3_faultAs_0 : decode cX3_faultAs 0 = .ok (.aload_n 0, 1) := by decide +kernel
theorem dX3_faultAs_1 : decode cX3_faultAs 1 = .ok (.invokevirtual 22, 3) := by decide +kernel
theorem dX3_faultAs_4 : decode cX3_faultAs 4 = .ok (.ifCond .eq 5, 3) := by decide +kernel
theorem dX3_faultAs_7 : decode cX3_faultAs 7 = .ok (.iconst 1, 1) := by decide +kernel
theorem dX3_faultAs_8 : decode cX3_faultAs 8 = .ok (.ireturn, 1) := by decide +kernel
theorem dX3_faultAs_9 : decode cX3_faultAs 9 = .ok (.aload_n 0, 1) := by decide +kernel
theorem dX3_faultAs_10 : decode cX3_faultAs 10 = .ok (.getfield 15, 3) := by decide +kernel
theorem dX3_faultAs_13 : decode cX3_faultAs 13 = .ok (.iload_n 1, 1) := by decide +kernel
theorem dX3_faultAs_14 : decode cX3_faultAs 14 = .ok (.if_icmp .ne 7, 3) := by decide +kernel
theorem dX3_faultAs_17 : decode cX3_faultAs 17 = .ok (.iconst 0, 1) := by decide +kernel
theorem dX3_faultAs_18 : decode cX3_faultAs 18 = .ok (.goto 4, 3) := by decide +kernel
theorem dX3_faultAs_21 : decode cX3_faultAs 21 = .ok (.iconst 2, 1) := by decide +kernel
theorem dX3_faultAs_22 : decode cX3_faultAs 22 = .ok (.ireturn, 1) := by decide +kernel
theorem dX3_hasCells_0 : decode cX3_hasCells 0 = .ok (.iload_n 1, 1) := by decide +kernel
theorem dX3_hasCells_1 : decode cX3_hasCells 1 = .ok (.ifCond .lt 29, 3) := by decide +kernel
theorem dX3_hasCells_4 : decode cX3_hasCells 4 = .ok (.iload_n 1, 1) := by decide +kernel
theorem dX3_hasCells_5 : decode cX3_hasCells 5 = .ok (.aload_n 0, 1) := by decide +kernel
theorem dX3_hasCells_6 : decode cX3_hasCells 6 = .ok (.getfield 19, 3) := by decide +kernel
theorem dX3_hasCells_9 : decode cX3_hasCells 9 = .ok (.if_icmp .gt 21, 3) := by decide +kernel
theorem dX3_hasCells_12 : decode cX3_hasCells 12 = .ok (.iload_n 2, 1) := by decide +kernel
theorem dX3_hasCells_13 : decode cX3_hasCells 13 = .ok (.ifCond .lt 17, 3) := by decide +kernel
theorem dX3_hasCells_16 : decode cX3_hasCells 16 = .ok (.iload_n 2, 1) := by decide +kernel
theorem dX3_hasCells_17 : decode cX3_hasCells 17 = .ok (.aload_n 0, 1) := by decide +kernel
theorem dX3_hasCells_18 : decode cX3_hasCells 18 = .ok (.getfield 19, 3) := by decide +kernel
theorem dX3_hasCells_21 : decode cX3_hasCells 21 = .ok (.iload_n 1, 1) := by decide +kernel
theorem dX3_hasCells_22 : decode cX3_hasCells 22 = .ok (.isub, 1) := by decide +kernel
theorem dX3_hasCells_23 : decode cX3_hasCells 23 = .ok (.if_icmp .gt 7, 3) := by decide +kernel
theorem dX3_hasCells_26 : decode cX3_hasCells 26 = .ok (.iconst 1, 1) := by decide +kernel
theorem dX3_hasCells_27 : decode cX3_hasCells 27 = .ok (.goto 4, 3) := by decide +kernel
theorem dX3_hasCells_30 : decode cX3_hasCells 30 = .ok (.iconst 0, 1) := by decide +kernel
theorem dX3_hasCells_31 : decode cX3_hasCells 31 = .ok (.ireturn, 1) := by decide +kernel
theorem dX3_write_0 : decode cX3_write 0 = .ok (.aload_n 0, 1) := by decide +kernel
theorem dX3_write_1 : decode cX3_write 1 = .ok (.getfield 15, 3) := by decide +kernel
theorem dX3_write_4 : decode cX3_write 4 = .ok (.lookupswitch 50 #[(0, 28), (1, 39)], 28) := by decide +kernel
theorem dX3_write_32 : decode cX3_write 32 = .ok (.aload_n 0, 1) := by decide +kernel
theorem dX3_write_33 : decode cX3_write 33 = .ok (.getfield 9, 3) := by decide +kernel
theorem dX3_write_36 : decode cX3_write 36 = .ok (.iload_n 1, 1) := by decide +kernel
theorem dX3_write_37 : decode cX3_write 37 = .ok (.iload_n 2, 1) := by decide +kernel
theorem dX3_write_38 : decode cX3_write 38 = .ok (.i2b, 1) := by decide +kernel
theorem dX3_write_39 : decode cX3_write 39 = .ok (.iastore, 1) := by decide +kernel
theorem dX3_write_40 : decode cX3_write 40 = .ok (.goto 21, 3) := by decide +kernel
theorem dX3_write_43 : decode cX3_write 43 = .ok (.aload_n 0, 1) := by decide +kernel
theorem dX3_write_44 : decode cX3_write 44 = .ok (.getfield 9, 3) := by decide +kernel
theorem dX3_write_47 : decode cX3_write 47 = .ok (.iload_n 1, 1) := by decide +kernel
theorem dX3_write_48 : decode cX3_write 48 = .ok (.iload_n 2, 1) := by decide +kernel
theorem dX3_write_49 : decode cX3_write 49 = .ok (.i2s, 1) := by decide +kernel
theorem dX3_write_50 : decode cX3_write 50 = .ok (.iastore, 1) := by decide +kernel
theorem dX3_write_51 : decode cX3_write 51 = .ok (.goto 10, 3) := by decide +kernel
theorem dX3_write_54 : decode cX3_write 54 = .ok (.aload_n 0, 1) := by decide +kernel
theorem dX3_write_55 : decode cX3_write 55 = .ok (.getfield 9, 3) := by decide +kernel
theorem dX3_write_58 : decode cX3_write 58 = .ok (.iload_n 1, 1) := by decide +kernel
theorem dX3_write_59 : decode cX3_write 59 = .ok (.iload_n 2, 1) := by decide +kernel
theorem dX3_write_60 : decode cX3_write 60 = .ok (.iastore, 1) := by decide +kernel
theorem dX3_write_61 : decode cX3_write 61 = .ok (.return_, 1) := by decide +kernel
set_option maxRecDepth 20000 in
theorem ggX4_firstFault_X4_fits : GoodIn wsX4_firstFault wsX4_fits := goodIn_r _ [5, 6, 7, 8, 9, 10, 4, 11, 12, 13, 14] (by decide +kernel) (by decide +kernel)
set_option maxRecDepth 20000 in
theorem gX4_firstFault_X4_fits : GoodIn wsX4_firstFault (va_wsS RX4 15 yX4_fits wsX4_fits) := goodIn_app (goodIn_of _ (by decide +kernel)) ggX4_firstFault_X4_fits
theorem dX4_firstFault_0 : decode cX4_firstFault 0 = .ok (.iconst 0, 1) := by decide +kernel
theorem dX4_firstFault_1 : decode cX4_firstFault 1 = .ok (.istore_n 3, 1) := by decide +kernel
theorem dX4_firstFault_2 : decode cX4_firstFault 2 = .ok (.iload_n 3, 1) := by decide +kernel
theorem dX4_firstFault_3 : decode cX4_firstFault 3 = .ok (.iload_n 2, 1) := by decide +kernel
theorem dX4_firstFault_4 : decode cX4_firstFault 4 = .ok (.if_icmp .ge 26, 3) := by decide +kernel
theorem dX4_firstFault_7 : decode cX4_firstFault 7 = .ok (.iload_n 3, 1) := by decide +kernel
theorem dX4_firstFault_8 : decode cX4_firstFault 8 = .ok (.aload_n 0, 1) := by decide +kernel
theorem dX4_firstFault_9 : decode cX4_firstFault 9 = .ok (.getfield 9, 3) := by decide +kernel
theorem dX4_firstFault_12 : decode cX4_firstFault 12 = .ok (.iload_n 1, 1) := by decide +kernel
theorem dX4_firstFault_13 : decode cX4_firstFault 13 = .ok (.iload_n 3, 1) := by decide +kernel
theorem dX4_firstFault_14 : decode cX4_firstFault 14 = .ok (.iadd, 1) := by decide +kernel
theorem dX4_firstFault_15 : decode cX4_firstFault 15 = .ok (.iaload, 1) := by decide +kernel
theorem dX4_firstFault_16 : decode cX4_firstFault 16 = .ok (.invokestatic 15, 3) := by decide +kernel
theorem dX4_firstFault_19 : decode cX4_firstFault 19 = .ok (.ifCond .ne 5, 3) := by decide +kernel
theorem dX4_firstFault_22 : decode cX4_firstFault 22 = .ok (.iload_n 3, 1) := by decide +kernel
theorem dX4_firstFault_23 : decode cX4_firstFault 23 = .ok (.ireturn, 1) := by decide +kernel
theorem dX4_firstFault_24 : decode cX4_firstFault 24 = .ok (.iinc 3 1, 3) := by decide +kernel
theorem dX4_firstFault_27 : decode cX4_firstFault 27 = .ok (.goto (-25), 3) := by decide +kernel
theorem dX4_firstFault_30 : decode cX4_firstFault 30 = .ok (.iload_n 2, 1) := by decide +kernel
theorem dX4_firstFault_31 : decode cX4_firstFault 31 = .ok (.iconst 3, 1) := by decide +kernel
theorem dX4_firstFault_32 : decode cX4_firstFault 32 = .ok (.if_icmp .le 15, 3) := by decide +kernel
theorem dX4_firstFault_35 : decode cX4_firstFault 35 = .ok (.iload_n 2, 1) := by decide +kernel
theorem dX4_firstFault_36 : decode cX4_firstFault 36 = .ok (.iconst 3, 1) := by decide +kernel
theorem dX4_firstFault_37 : decode cX4_firstFault 37 = .ok (.isub, 1) := by decide +kernel
theorem dX4_firstFault_38 : decode cX4_firstFault 38 = .ok (.iconst 5, 1) := by decide +kernel
theorem dX4_firstFault_39 : decode cX4_firstFault 39 = .ok (.irem, 1) := by decide +kernel
theorem dX4_firstFault_40 : decode cX4_firstFault 40 = .ok (.ifCond .ne 7, 3) := by decide +kernel
theorem dX4_firstFault_43 : decode cX4_firstFault 43 = .ok (.iconst 1, 1) := by decide +kernel
theorem dX4_firstFault_44 : decode cX4_firstFault 44 = .ok (.goto 4, 3) := by decide +kernel
theorem dX4_firstFault_47 : decode cX4_firstFault 47 = .ok (.iconst 0, 1) := by decide +kernel
theorem dX4_firstFault_48 : decode cX4_firstFault 48 = .ok (.istore_n 3, 1) := by decide +kernel
theorem dX4_firstFault_49 : decode cX4_firstFault 49 = .ok (.iload_n 3, 1) := by decide +kernel
theorem dX4_firstFault_50 : decode cX4_firstFault 50 = .ok (.ifCond .eq 8, 3) := by decide +kernel
theorem dX4_firstFault_53 : decode cX4_firstFault 53 = .ok (.bipush (-9), 2) := by decide +kernel
theorem dX4_firstFault_55 : decode cX4_firstFault 55 = .ok (.goto 4, 3) := by decide +kernel
theorem dX4_firstFault_58 : decode cX4_firstFault 58 = .ok (.iload_n 2, 1) := by decide +kernel
theorem dX4_firstFault_59 : decode cX4_firstFault 59 = .ok (.ireturn, 1) := by decide +kernel
set_option maxRecDepth 20000 in
theorem ggX4_fits_X6_isBelow : GoodIn wsX4_fits wsX6_isBelow := goodIn_r _ [3] (by decide +kernel) (by decide +kernel)
set_option maxRecDepth 20000 in
theorem gX4_fits_X6_isBelow_n21 : GoodIn wsX4_fits (wsX6_isBelow) := ggX4_fits_X6_isBelow
set_option maxRecDepth 20000 in
theorem ggX4_fits_X4_startOf : GoodIn wsX4_fits wsX4_startOf := goodIn_r _ [7] (by decide +kernel) (by decide +kernel)
set_option maxRecDepth 20000 in
theorem gX4_fits_X4_startOf : GoodIn wsX4_fits (va_wsS RX4 24 yX4_startOf wsX4_startOf) := goodIn_app (goodIn_of _ (by decide +kernel)) ggX4_fits_X4_startOf
set_option maxRecDepth 20000 in
theorem ggX4_fits_X4_kindBy : GoodIn wsX4_fits wsX4_kindBy := goodIn_r _ [10] (by decide +kernel) (by decide +kernel)
set_option maxRecDepth 20000 in
theorem gX4_fits_X4_kindBy : GoodIn wsX4_fits (va_wsS RX4 28 yX4_kindBy wsX4_kindBy) := goodIn_app (goodIn_of _ (by decide +kernel)) ggX4_fits_X4_kindBy
theorem dX4_fits_0 : decode cX4_fits 0 = .ok (.iload_n 0, 1) := by decide +kernel
theorem dX4_fits_1 : decode cX4_fits 1 = .ok (.ifCond .ne 15, 3) := by decide +kernel
theorem dX4_fits_4 : decode cX4_fits 4 = .ok (.iload_n 1, 1) := by decide +kernel
theorem dX4_fits_5 : decode cX4_fits 5 = .ok (.bipush 98, 2) := by decide +kernel
theorem dX4_fits_7 : decode cX4_fits 7 = .ok (.if_icmp .ne 7, 3) := by decide +kernel
theorem dX4_fits_10 : decode cX4_fits 10 = .ok (.iconst 1, 1) := by decide +kernel
theorem dX4_fits_11 : decode cX4_fits 11 = .ok (.goto 4, 3) := by decide +kernel
theorem dX4_fits_14 : decode cX4_fits 14 = .ok (.iconst 0, 1) := by decide +kernel
theorem dX4_fits_15 : decode cX4_fits 15 = .ok (.ireturn, 1) := by decide +kernel
theorem dX4_fits_16 : decode cX4_fits 16 = .ok (.iload_n 0, 1) := by decide +kernel
theorem dX4_fits_17 : decode cX4_fits 17 = .ok (.iconst 1, 1) := by decide +kernel
theorem dX4_fits_18 : decode cX4_fits 18 = .ok (.if_icmp .ne 12, 3) := by decide +kernel
theorem dX4_fits_21 : decode cX4_fits 21 = .ok (.iload_n 1, 1) := by decide +kernel
theorem dX4_fits_22 : decode cX4_fits 22 = .ok (.bipush 48, 2) := by decide +kernel
theorem dX4_fits_24 : decode cX4_fits 24 = .ok (.isub, 1) := by decide +kernel
theorem dX4_fits_25 : decode cX4_fits 25 = .ok (.iconst 3, 1) := by decide +kernel
theorem dX4_fits_26 : decode cX4_fits 26 = .ok (.invokestatic 21, 3) := by decide +kernel
theorem dX4_fits_29 : decode cX4_fits 29 = .ok (.ireturn, 1) := by decide +kernel
theorem dX4_fits_30 : decode cX4_fits 30 = .ok (.iload_n 0, 1) := by decide +kernel
theorem dX4_fits_31 : decode cX4_fits 31 = .ok (.iconst 2, 1) := by decide +kernel
theorem dX4_fits_32 : decode cX4_fits 32 = .ok (.if_icmp .ne 13, 3) := by decide +kernel
theorem dX4_fits_35 : decode cX4_fits 35 = .ok (.iload_n 1, 1) := by decide +kernel
theorem dX4_fits_36 : decode cX4_fits 36 = .ok (.bipush 48, 2) := by decide +kernel
theorem dX4_fits_38 : decode cX4_fits 38 = .ok (.isub, 1) := by decide +kernel
theorem dX4_fits_39 : decode cX4_fits 39 = .ok (.bipush 10, 2) := by decide +kernel
theorem dX4_fits_41 : decode cX4_fits 41 = .ok (.invokestatic 21, 3) := by decide +kernel
theorem dX4_fits_44 : decode cX4_fits 44 = .ok (.ireturn, 1) := by decide +kernel
theorem dX4_fits_45 : decode cX4_fits 45 = .ok (.iload_n 0, 1) := by decide +kernel
theorem dX4_fits_46 : decode cX4_fits 46 = .ok (.iconst 5, 1) := by decide +kernel
theorem dX4_fits_47 : decode cX4_fits 47 = .ok (.invokestatic 24, 3) := by decide +kernel
theorem dX4_fits_50 : decode cX4_fits 50 = .ok (.if_icmp .lt 5, 3) := by decide +kernel
theorem dX4_fits_53 : decode cX4_fits 53 = .ok (.iconst 0, 1) := by decide +kernel
theorem dX4_fits_54 : decode cX4_fits 54 = .ok (.ireturn, 1) := by decide +kernel
theorem dX4_fits_55 : decode cX4_fits 55 = .ok (.iload_n 0, 1) := by decide +kernel
theorem dX4_fits_56 : decode cX4_fits 56 = .ok (.iconst 3, 1) := by decide +kernel
theorem dX4_fits_57 : decode cX4_fits 57 = .ok (.isub, 1) := by decide +kernel
theorem dX4_fits_58 : decode cX4_fits 58 = .ok (.iconst 5, 1) := by decide +kernel
theorem dX4_fits_59 : decode cX4_fits 59 = .ok (.irem, 1) := by decide +kernel
theorem dX4_fits_60 : decode cX4_fits 60 = .ok (.tableswitch 79 0 3 #[32, 44, 59, 69], 32) := by decide +kernel
theorem dX4_fits_92 : decode cX4_fits 92 = .ok (.iload_n 1, 1) := by decide +kernel
theorem dX4_fits_93 : decode cX4_fits 93 = .ok (.bipush 59, 2) := by decide +kernel
theorem dX4_fits_95 : decode cX4_fits 95 = .ok (.if_icmp .ne 7, 3) := by decide +kernel
theorem dX4_fits_98 : decode cX4_fits 98 = .ok (.iconst 1, 1) := by decide +kernel
theorem dX4_fits_99 : decode cX4_fits 99 = .ok (.goto 4, 3) := by decide +kernel
theorem dX4_fits_102 : decode cX4_fits 102 = .ok (.iconst 0, 1) := by decide +kernel
theorem dX4_fits_103 : decode cX4_fits 103 = .ok (.ireturn, 1) := by decide +kernel
theorem dX4_fits_104 : decode cX4_fits 104 = .ok (.iload_n 1, 1) := by decide +kernel
theorem dX4_fits_105 : decode cX4_fits 105 = .ok (.invokestatic 28, 3) := by decide +kernel
theorem dX4_fits_108 : decode cX4_fits 108 = .ok (.bipush (-9), 2) := by decide +kernel
theorem dX4_fits_110 : decode cX4_fits 110 = .ok (.if_icmp .eq 7, 3) := by decide +kernel
theorem dX4_fits_113 : decode cX4_fits 113 = .ok (.iconst 1, 1) := by decide +kernel
theorem dX4_fits_114 : decode cX4_fits 114 = .ok (.goto 4, 3) := by decide +kernel
theorem dX4_fits_117 : decode cX4_fits 117 = .ok (.iconst 0, 1) := by decide +kernel
theorem dX4_fits_118 : decode cX4_fits 118 = .ok (.ireturn, 1) := by decide +kernel
theorem dX4_fits_119 : decode cX4_fits 119 = .ok (.iload_n 1, 1) := by decide +kernel
theorem dX4_fits_120 : decode cX4_fits 120 = .ok (.bipush 48, 2) := by decide +kernel
theorem dX4_fits_122 : decode cX4_fits 122 = .ok (.isub, 1) := by decide +kernel
theorem dX4_fits_123 : decode cX4_fits 123 = .ok (.bipush 10, 2) := by decide +kernel
theorem dX4_fits_125 : decode cX4_fits 125 = .ok (.invokestatic 21, 3) := by decide +kernel
theorem dX4_fits_128 : decode cX4_fits 128 = .ok (.ireturn, 1) := by decide +kernel
theorem dX4_fits_129 : decode cX4_fits 129 = .ok (.iload_n 1, 1) := by decide +kernel
theorem dX4_fits_130 : decode cX4_fits 130 = .ok (.bipush 48, 2) := by decide +kernel
theorem dX4_fits_132 : decode cX4_fits 132 = .ok (.isub, 1) := by decide +kernel
theorem dX4_fits_133 : decode cX4_fits 133 = .ok (.bipush 10, 2) := by decide +kernel
theorem dX4_fits_135 : decode cX4_fits 135 = .ok (.invokestatic 21, 3) := by decide +kernel
theorem dX4_fits_138 : decode cX4_fits 138 = .ok (.ireturn, 1) := by decide +kernel
theorem dX4_fits_139 : decode cX4_fits 139 = .ok (.iload_n 1, 1) := by decide +kernel
theorem dX4_fits_140 : decode cX4_fits 140 = .ok (.bipush 48, 2) := by decide +kernel
theorem dX4_fits_142 : decode cX4_fits 142 = .ok (.isub, 1) := by decide +kernel
theorem dX4_fits_143 : decode cX4_fits 143 = .ok (.iconst 4, 1) := by decide +kernel
theorem dX4_fits_144 : decode cX4_fits 144 = .ok (.invokestatic 21, 3) := by decide +kernel
theorem dX4_fits_147 : decode cX4_fits 147 = .ok (.ireturn, 1) := by decide +kernel
theorem dX4_startOf_0 : decode cX4_startOf 0 = .ok (.iconst 3, 1) := by decide +kernel
theorem dX4_startOf_1 : decode cX4_startOf 1 = .ok (.iconst 5, 1) := by decide +kernel
theorem dX4_startOf_2 : decode cX4_startOf 2 = .ok (.iload_n 0, 1) := by decide +kernel
theorem dX4_startOf_3 : decode cX4_startOf 3 = .ok (.imul, 1) := by decide +kernel
theorem dX4_startOf_4 : decode cX4_startOf 4 = .ok (.iadd, 1) := by decide +kernel
theorem dX4_startOf_5 : decode cX4_startOf 5 = .ok (.ireturn, 1) := by decide +kernel
theorem dX4_bellsOf_0 : decode cX4_bellsOf 0 = .ok (.iload_n 0, 1) := by decide +kernel
theorem dX4_bellsOf_1 : decode cX4_bellsOf 1 = .ok (.iconst 3, 1) := by decide +kernel
theorem dX4_bellsOf_2 : decode cX4_bellsOf 2 = .ok (.isub, 1) := by decide +kernel
theorem dX4_bellsOf_3 : decode cX4_bellsOf 3 = .ok (.iconst 5, 1) := by decide +kernel
theorem dX4_bellsOf_4 : decode cX4_bellsOf 4 = .ok (.idiv, 1) := by decide +kernel
theorem dX4_bellsOf_5 : decode cX4_bellsOf 5 = .ok (.ireturn, 1) := by decide +kernel
theorem dX4_kindBy_0 : decode cX4_kindBy 0 = .ok (.iload_n 0, 1) := by decide +kernel
theorem dX4_kindBy_1 : decode cX4_kindBy 1 = .ok (.lookupswitch 41 #[(104, 39), (107, 37), (112, 35)], 35) := by decide +kernel
theorem dX4_kindBy_36 : decode cX4_kindBy 36 = .ok (.iconst 0, 1) := by decide +kernel
theorem dX4_kindBy_37 : decode cX4_kindBy 37 = .ok (.ireturn, 1) := by decide +kernel
theorem dX4_kindBy_38 : decode cX4_kindBy 38 = .ok (.iconst 1, 1) := by decide +kernel
theorem dX4_kindBy_39 : decode cX4_kindBy 39 = .ok (.ireturn, 1) := by decide +kernel
theorem dX4_kindBy_40 : decode cX4_kindBy 40 = .ok (.iconst 2, 1) := by decide +kernel
theorem dX4_kindBy_41 : decode cX4_kindBy 41 = .ok (.ireturn, 1) := by decide +kernel
theorem dX4_kindBy_42 : decode cX4_kindBy 42 = .ok (.bipush (-9), 2) := by decide +kernel
theorem dX4_kindBy_44 : decode cX4_kindBy 44 = .ok (.ireturn, 1) := by decide +kernel
theorem dX5_init_0 : decode cX5_init 0 = .ok (.aload_n 0, 1) := by decide +kernel
theorem dX5_init_1 : decode cX5_init 1 = .ok (.invokespecial 3, 3) := by decide +kernel
theorem dX5_init_4 : decode cX5_init 4 = .ok (.aload_n 0, 1) := by decide +kernel
theorem dX5_init_5 : decode cX5_init 5 = .ok (.iconst 5, 1) := by decide +kernel
theorem dX5_init_6 : decode cX5_init 6 = .ok (.newarray .int, 2) := by decide +kernel
theorem dX5_init_8 : decode cX5_init 8 = .ok (.putfield 9, 3) := by decide +kernel
theorem dX5_init_11 : decode cX5_init 11 = .ok (.aload_n 0, 1) := by decide +kernel
theorem dX5_init_12 : decode cX5_init 12 = .ok (.iconst 0, 1) := by decide +kernel
theorem dX5_init_13 : decode cX5_init 13 = .ok (.putfield 15, 3) := by decide +kernel
theorem dX5_init_16 : decode cX5_init 16 = .ok (.aload_n 0, 1) := by decide +kernel
theorem dX5_init_17 : decode cX5_init 17 = .ok (.bipush (-9), 2) := by decide +kernel
theorem dX5_init_19 : decode cX5_init 19 = .ok (.putfield 19, 3) := by decide +kernel
theorem dX5_init_22 : decode cX5_init 22 = .ok (.return_, 1) := by decide +kernel
set_option maxRecDepth 20000 in
theorem ggX5_goAll_X1_hasBell : GoodIn wsX5_goAll wsX1_hasBell := goodIn_r _ [18, 19, 20, 21, 22, 23, 24, 25, 26, 27, 28, 29] (by decide +kernel) (by decide +kernel)
set_option maxRecDepth 20000 in
theorem gX5_goAll_X1_hasBell : GoodIn wsX5_goAll (wsV RX5 36 RX1 yX1_hasBell wsX1_hasBell) := goodIn_app (goodIn_of _ (by decide +kernel)) ggX5_goAll_X1_hasBell
set_option maxRecDepth 20000 in
theorem ggX5_goAll_X6_isBelow : GoodIn wsX5_goAll wsX6_isBelow := goodIn_r _ [22] (by decide +kernel) (by decide +kernel)
set_option maxRecDepth 20000 in
theorem gX5_goAll_X6_isBelow_n40 : GoodIn wsX5_goAll (wsX6_isBelow) := ggX5_goAll_X6_isBelow
theorem dX5_goAll_0 : decode cX5_goAll 0 = .ok (.aload_n 1, 1) := by decide +kernel
theorem dX5_goAll_1 : decode cX5_goAll 1 = .ok (.getfield 22, 3) := by decide +kernel
theorem dX5_goAll_4 : decode cX5_goAll 4 = .ok (.iconst 0, 1) := by decide +kernel
theorem dX5_goAll_5 : decode cX5_goAll 5 = .ok (.aload_n 0, 1) := by decide +kernel
theorem dX5_goAll_6 : decode cX5_goAll 6 = .ok (.getfield 9, 3) := by decide +kernel
theorem dX5_goAll_9 : decode cX5_goAll 9 = .ok (.iconst 0, 1) := by decide +kernel
theorem dX5_goAll_10 : decode cX5_goAll 10 = .ok (.iconst 5, 1) := by decide +kernel
theorem dX5_goAll_11 : decode cX5_goAll 11 = .ok (.invokestatic 25, 3) := by decide +kernel
theorem dX5_goAll_14 : decode cX5_goAll 14 = .ok (.aload_n 0, 1) := by decide +kernel
theorem dX5_goAll_15 : decode cX5_goAll 15 = .ok (.iconst 0, 1) := by decide +kernel
theorem dX5_goAll_16 : decode cX5_goAll 16 = .ok (.putfield 15, 3) := by decide +kernel
theorem dX5_goAll_19 : decode cX5_goAll 19 = .ok (.aload_n 0, 1) := by decide +kernel
theorem dX5_goAll_20 : decode cX5_goAll 20 = .ok (.bipush (-9), 2) := by decide +kernel
theorem dX5_goAll_22 : decode cX5_goAll 22 = .ok (.putfield 19, 3) := by decide +kernel
theorem dX5_goAll_25 : decode cX5_goAll 25 = .ok (.iconst 0, 1) := by decide +kernel
theorem dX5_goAll_26 : decode cX5_goAll 26 = .ok (.istore 5, 2) := by decide +kernel
theorem dX5_goAll_28 : decode cX5_goAll 28 = .ok (.iload 5, 2) := by decide +kernel
theorem dX5_goAll_30 : decode cX5_goAll 30 = .ok (.iload 4, 2) := by decide +kernel
theorem dX5_goAll_32 : decode cX5_goAll 32 = .ok (.if_icmp .ge 116, 3) := by decide +kernel
theorem dX5_goAll_35 : decode cX5_goAll 35 = .ok (.aload_n 2, 1) := by decide +kernel
theorem dX5_goAll_36 : decode cX5_goAll 36 = .ok (.getfield 31, 3) := by decide +kernel
theorem dX5_goAll_39 : decode cX5_goAll 39 = .ok (.iload_n 3, 1) := by decide +kernel
theorem dX5_goAll_40 : decode cX5_goAll 40 = .ok (.iconst 2, 1) := by decide +kernel
theorem dX5_goAll_41 : decode cX5_goAll 41 = .ok (.iload 5, 2) := by decide +kernel
theorem dX5_goAll_43 : decode cX5_goAll 43 = .ok (.imul, 1) := by decide +kernel
theorem dX5_goAll_44 : decode cX5_goAll 44 = .ok (.iadd, 1) := by decide +kernel
theorem dX5_goAll_45 : decode cX5_goAll 45 = .ok (.iaload, 1) := by decide +kernel
theorem dX5_goAll_46 : decode cX5_goAll 46 = .ok (.istore 6, 2) := by decide +kernel
theorem dX5_goAll_48 : decode cX5_goAll 48 = .ok (.aload_n 2, 1) := by decide +kernel
theorem dX5_goAll_49 : decode cX5_goAll 49 = .ok (.getfield 31, 3) := by decide +kernel
theorem dX5_goAll_52 : decode cX5_goAll 52 = .ok (.iload_n 3, 1) := by decide +kernel
theorem dX5_goAll_53 : decode cX5_goAll 53 = .ok (.iconst 2, 1) := by decide +kernel
theorem dX5_goAll_54 : decode cX5_goAll 54 = .ok (.iload 5, 2) := by decide +kernel
theorem dX5_goAll_56 : decode cX5_goAll 56 = .ok (.imul, 1) := by decide +kernel
theorem dX5_goAll_57 : decode cX5_goAll 57 = .ok (.iadd, 1) := by decide +kernel
theorem dX5_goAll_58 : decode cX5_goAll 58 = .ok (.iconst 1, 1) := by decide +kernel
theorem dX5_goAll_59 : decode cX5_goAll 59 = .ok (.iadd, 1) := by decide +kernel
theorem dX5_goAll_60 : decode cX5_goAll 60 = .ok (.iaload, 1) := by decide +kernel
theorem dX5_goAll_61 : decode cX5_goAll 61 = .ok (.istore 7, 2) := by decide +kernel
theorem dX5_goAll_63 : decode cX5_goAll 63 = .ok (.aload_n 1, 1) := by decide +kernel
theorem dX5_goAll_64 : decode cX5_goAll 64 = .ok (.iload 6, 2) := by decide +kernel
theorem dX5_goAll_66 : decode cX5_goAll 66 = .ok (.invokevirtual 36, 3) := by decide +kernel
theorem dX5_goAll_69 : decode cX5_goAll 69 = .ok (.ifCond .ne 5, 3) := by decide +kernel
theorem dX5_goAll_72 : decode cX5_goAll 72 = .ok (.iconst (-1), 1) := by decide +kernel
theorem dX5_goAll_73 : decode cX5_goAll 73 = .ok (.ireturn, 1) := by decide +kernel
theorem dX5_goAll_74 : decode cX5_goAll 74 = .ok (.iload 7, 2) := by decide +kernel
theorem dX5_goAll_76 : decode cX5_goAll 76 = .ok (.bipush 10, 2) := by decide +kernel
theorem dX5_goAll_78 : decode cX5_goAll 78 = .ok (.invokestatic 40, 3) := by decide +kernel
theorem dX5_goAll_81 : decode cX5_goAll 81 = .ok (.ifCond .ne 6, 3) := by decide +kernel
theorem dX5_goAll_84 : decode cX5_goAll 84 = .ok (.bipush (-2), 2) := by decide +kernel
theorem dX5_goAll_86 : decode cX5_goAll 86 = .ok (.ireturn, 1) := by decide +kernel
theorem dX5_goAll_87 : decode cX5_goAll 87 = .ok (.aload_n 0, 1) := by decide +kernel
theorem dX5_goAll_88 : decode cX5_goAll 88 = .ok (.getfield 9, 3) := by decide +kernel
theorem dX5_goAll_91 : decode cX5_goAll 91 = .ok (.iload 6, 2) := by decide +kernel
theorem dX5_goAll_93 : decode cX5_goAll 93 = .ok (.iaload, 1) := by decide +kernel
theorem dX5_goAll_94 : decode cX5_goAll 94 = .ok (.iload 7, 2) := by decide +kernel
theorem dX5_goAll_96 : decode cX5_goAll 96 = .ok (.isub, 1) := by decide +kernel
theorem dX5_goAll_97 : decode cX5_goAll 97 = .ok (.invokestatic 44, 3) := by decide +kernel
theorem dX5_goAll_100 : decode cX5_goAll 100 = .ok (.istore 8, 2) := by decide +kernel
theorem dX5_goAll_102 : decode cX5_goAll 102 = .ok (.iload 8, 2) := by decide +kernel
theorem dX5_goAll_104 : decode cX5_goAll 104 = .ok (.ifCond .ne 18, 3) := by decide +kernel
theorem dX5_goAll_107 : decode cX5_goAll 107 = .ok (.aload_n 0, 1) := by decide +kernel
theorem dX5_goAll_108 : decode cX5_goAll 108 = .ok (.getfield 19, 3) := by decide +kernel
theorem dX5_goAll_111 : decode cX5_goAll 111 = .ok (.bipush (-9), 2) := by decide +kernel
theorem dX5_goAll_113 : decode cX5_goAll 113 = .ok (.if_icmp .ne 9, 3) := by decide +kernel
theorem dX5_goAll_116 : decode cX5_goAll 116 = .ok (.aload_n 0, 1) := by decide +kernel
theorem dX5_goAll_117 : decode cX5_goAll 117 = .ok (.iload 5, 2) := by decide +kernel
theorem dX5_goAll_119 : decode cX5_goAll 119 = .ok (.putfield 19, 3) := by decide +kernel
theorem dX5_goAll_122 : decode cX5_goAll 122 = .ok (.aload_n 0, 1) := by decide +kernel
theorem dX5_goAll_123 : decode cX5_goAll 123 = .ok (.dup, 1) := by decide +kernel
theorem dX5_goAll_124 : decode cX5_goAll 124 = .ok (.getfield 15, 3) := by decide +kernel
theorem dX5_goAll_127 : decode cX5_goAll 127 = .ok (.iload 8, 2) := by decide +kernel
theorem dX5_goAll_129 : decode cX5_goAll 129 = .ok (.iadd, 1) := by decide +kernel
theorem dX5_goAll_130 : decode cX5_goAll 130 = .ok (.putfield 15, 3) := by decide +kernel
theorem dX5_goAll_133 : decode cX5_goAll 133 = .ok (.aload_n 0, 1) := by decide +kernel
theorem dX5_goAll_134 : decode cX5_goAll 134 = .ok (.getfield 9, 3) := by decide +kernel
theorem dX5_goAll_137 : decode cX5_goAll 137 = .ok (.iload 6, 2) := by decide +kernel
theorem dX5_goAll_139 : decode cX5_goAll 139 = .ok (.iload 7, 2) := by decide +kernel
theorem dX5_goAll_141 : decode cX5_goAll 141 = .ok (.iastore, 1) := by decide +kernel
theorem dX5_goAll_142 : decode cX5_goAll 142 = .ok (.iinc 5 1, 3) := by decide +kernel
theorem dX5_goAll_145 : decode cX5_goAll 145 = .ok (.goto (-117), 3) := by decide +kernel
theorem dX5_goAll_148 : decode cX5_goAll 148 = .ok (.iconst 0, 1) := by decide +kernel
theorem dX5_goAll_149 : decode cX5_goAll 149 = .ok (.ireturn, 1) := by decide +kernel
set_option maxRecDepth 20000 in
theorem ggX6_init_X1_init : GoodIn wsX6_init wsX1_init := goodIn_r _ [27, 28, 2, 3, 29, 30, 31, 32, 33, 34, 35, 36, 69, 70, 71, 72, 73, 74, 75] (by decide +kernel) (by decide +kernel)
set_option maxRecDepth 20000 in
theorem gX6_init_X1_init_n19 : GoodIn wsX6_init (wsX1_init) := ggX6_init_X1_init
set_option maxRecDepth 20000 in
theorem ggX6_init_X2_init : GoodIn wsX6_init wsX2_init := goodIn_r _ [38, 39, 2, 3, 29, 40, 41, 42, 43, 76, 77, 78, 79] (by decide +kernel) (by decide +kernel)
set_option maxRecDepth 20000 in
theorem gX6_init_X2_init_n26 : GoodIn wsX6_init (wsX2_init) := ggX6_init_X2_init
set_option maxRecDepth 20000 in
theorem ggX6_init_X0_init : GoodIn wsX6_init wsX0_init := goodIn_r _ [45, 46, 2, 3, 29, 47, 48, 49, 80, 81, 82] (by decide +kernel) (by decide +kernel)
set_option maxRecDepth 20000 in
theorem gX6_init_X0_init_n33 : GoodIn wsX6_init (wsX0_init) := ggX6_init_X0_init
set_option maxRecDepth 20000 in
theorem ggX6_init_X5_init : GoodIn wsX6_init wsX5_init := goodIn_r _ [51, 52, 2, 3, 29, 53, 54, 55, 83, 84, 85] (by decide +kernel) (by decide +kernel)
set_option maxRecDepth 20000 in
theorem gX6_init_X5_init_n40 : GoodIn wsX6_init (wsX5_init) := ggX6_init_X5_init
set_option maxRecDepth 20000 in
theorem ggX6_init_X3_init : GoodIn wsX6_init wsX3_init := goodIn_r _ [57, 58, 2, 3, 29, 59, 60, 61, 86, 87, 88] (by decide +kernel) (by decide +kernel)
set_option maxRecDepth 20000 in
theorem gX6_init_X3_init_n52 : GoodIn wsX6_init (wsX3_init) := ggX6_init_X3_init
theorem dX6_init_0 : decode cX6_init 0 = .ok (.aload_n 0, 1) := by decide +kernel
theorem dX6_init_1 : decode cX6_init 1 = .ok (.invokespecial 3, 3) := by decide +kernel
theorem dX6_init_4 : decode cX6_init 4 = .ok (.aload_n 0, 1) := by decide +kernel
theorem dX6_init_5 : decode cX6_init 5 = .ok (.iconst 4, 1) := by decide +kernel
theorem dX6_init_6 : decode cX6_init 6 = .ok (.anewarray 11, 3) := by decide +kernel
theorem dX6_init_9 : decode cX6_init 9 = .ok (.putfield 13, 3) := by decide +kernel
theorem dX6_init_12 : decode cX6_init 12 = .ok (.aload_n 0, 1) := by decide +kernel
theorem dX6_init_13 : decode cX6_init 13 = .ok (.new 17, 3) := by decide +kernel
theorem dX6_init_16 : decode cX6_init 16 = .ok (.dup, 1) := by decide +kernel
theorem dX6_init_17 : decode cX6_init 17 = .ok (.invokespecial 19, 3) := by decide +kernel
theorem dX6_init_20 : decode cX6_init 20 = .ok (.putfield 20, 3) := by decide +kernel
theorem dX6_init_23 : decode cX6_init 23 = .ok (.aload_n 0, 1) := by decide +kernel
theorem dX6_init_24 : decode cX6_init 24 = .ok (.new 24, 3) := by decide +kernel
theorem dX6_init_27 : decode cX6_init 27 = .ok (.dup, 1) := by decide +kernel
theorem dX6_init_28 : decode cX6_init 28 = .ok (.invokespecial 26, 3) := by decide +kernel
theorem dX6_init_31 : decode cX6_init 31 = .ok (.putfield 27, 3) := by decide +kernel
theorem dX6_init_34 : decode cX6_init 34 = .ok (.aload_n 0, 1) := by decide +kernel
theorem dX6_init_35 : decode cX6_init 35 = .ok (.new 31, 3) := by decide +kernel
theorem dX6_init_38 : decode cX6_init 38 = .ok (.dup, 1) := by decide +kernel
theorem dX6_init_39 : decode cX6_init 39 = .ok (.invokespecial 33, 3) := by decide +kernel
theorem dX6_init_42 : decode cX6_init 42 = .ok (.putfield 34, 3) := by decide +kernel
theorem dX6_init_45 : decode cX6_init 45 = .ok (.aload_n 0, 1) := by decide +kernel
theorem dX6_init_46 : decode cX6_init 46 = .ok (.new 38, 3) := by decide +kernel
theorem dX6_init_49 : decode cX6_init 49 = .ok (.dup, 1) := by decide +kernel
theorem dX6_init_50 : decode cX6_init 50 = .ok (.invokespecial 40, 3) := by decide +kernel
theorem dX6_init_53 : decode cX6_init 53 = .ok (.putfield 41, 3) := by decide +kernel
theorem dX6_init_56 : decode cX6_init 56 = .ok (.aload_n 0, 1) := by decide +kernel
theorem dX6_init_57 : decode cX6_init 57 = .ok (.iconst 0, 1) := by decide +kernel
theorem dX6_init_58 : decode cX6_init 58 = .ok (.putfield 45, 3) := by decide +kernel
theorem dX6_init_61 : decode cX6_init 61 = .ok (.aload_n 0, 1) := by decide +kernel
theorem dX6_init_62 : decode cX6_init 62 = .ok (.iconst 0, 1) := by decide +kernel
theorem dX6_init_63 : decode cX6_init 63 = .ok (.putfield 49, 3) := by decide +kernel
theorem dX6_init_66 : decode cX6_init 66 = .ok (.iconst 0, 1) := by decide +kernel
theorem dX6_init_67 : decode cX6_init 67 = .ok (.istore_n 1, 1) := by decide +kernel
theorem dX6_init_68 : decode cX6_init 68 = .ok (.iload_n 1, 1) := by decide +kernel
theorem dX6_init_69 : decode cX6_init 69 = .ok (.iconst 4, 1) := by decide +kernel
theorem dX6_init_70 : decode cX6_init 70 = .ok (.if_icmp .ge 22, 3) := by decide +kernel
theorem dX6_init_73 : decode cX6_init 73 = .ok (.aload_n 0, 1) := by decide +kernel
theorem dX6_init_74 : decode cX6_init 74 = .ok (.getfield 13, 3) := by decide +kernel
theorem dX6_init_77 : decode cX6_init 77 = .ok (.iload_n 1, 1) := by decide +kernel
theorem dX6_init_78 : decode cX6_init 78 = .ok (.new 11, 3) := by decide +kernel
theorem dX6_init_81 : decode cX6_init 81 = .ok (.dup, 1) := by decide +kernel
theorem dX6_init_82 : decode cX6_init 82 = .ok (.invokespecial 52, 3) := by decide +kernel
theorem dX6_init_85 : decode cX6_init 85 = .ok (.aastore, 1) := by decide +kernel
theorem dX6_init_86 : decode cX6_init 86 = .ok (.iinc 1 1, 3) := by decide +kernel
theorem dX6_init_89 : decode cX6_init 89 = .ok (.goto (-21), 3) := by decide +kernel
theorem dX6_init_92 : decode cX6_init 92 = .ok (.return_, 1) := by decide +kernel
set_option maxRecDepth 20000 in
theorem ggX6_alp_X6_isBelow : GoodIn wsX6_alp wsX6_isBelow := goodIn_r _ [10] (by decide +kernel) (by decide +kernel)
set_option maxRecDepth 20000 in
theorem gX6_alp_X6_isBelow : GoodIn wsX6_alp (va_wsS RX6 53 yX6_isBelow wsX6_isBelow) := goodIn_app (goodIn_of _ (by decide +kernel)) ggX6_alp_X6_isBelow
set_option maxRecDepth 20000 in
theorem ggX6_alp_X3_faultAs : GoodIn wsX6_alp wsX3_faultAs := goodIn_r _ [15, 16, 17, 18, 19, 14, 20, 80, 81, 82] (by decide +kernel) (by decide +kernel)
set_option maxRecDepth 20000 in
theorem gX6_alp_X3_faultAs : GoodIn wsX6_alp (wsV RX6 57 RX3 yX3_faultAs wsX3_faultAs) := goodIn_app (goodIn_of _ (by decide +kernel)) ggX6_alp_X3_faultAs
set_option maxRecDepth 20000 in
theorem ggX6_alp_X6_failBy : GoodIn wsX6_alp wsX6_failBy := goodIn_r _ [24, 1, 62, 63, 64, 65, 66, 67, 68] (by decide +kernel) (by decide +kernel)
set_option maxRecDepth 20000 in
theorem gX6_alp_X6_failBy : GoodIn wsX6_alp (wsV RX6 61 RX6 yX6_failBy wsX6_failBy) := goodIn_app (goodIn_of _ (by decide +kernel)) ggX6_alp_X6_failBy
set_option maxRecDepth 20000 in
theorem ggX6_alp_X3_hasCells : GoodIn wsX6_alp wsX3_hasCells := goodIn_r _ [28, 29, 80, 81, 82] (by decide +kernel) (by decide +kernel)
set_option maxRecDepth 20000 in
theorem gX6_alp_X3_hasCells : GoodIn wsX6_alp (wsV RX6 64 RX3 yX3_hasCells wsX3_hasCells) := goodIn_app (goodIn_of _ (by decide +kernel)) ggX6_alp_X3_hasCells
set_option maxRecDepth 20000 in
theorem ggX6_alp_X4_firstFault : GoodIn wsX6_alp wsX4_firstFault := goodIn_r _ [33, 34, 35, 36, 32, 37, 8, 9, 10, 38, 39, 40, 41, 42, 43, 80, 81, 82] (by decide +kernel) (by decide +kernel)
set_option maxRecDepth 20000 in
theorem gX6_alp_X4_firstFault : GoodIn wsX6_alp (va_wsS RX6 67 yX4_firstFault wsX4_firstFault) := goodIn_app (goodIn_of _ (by decide +kernel)) ggX6_alp_X4_firstFault
set_option maxRecDepth 20000 in
theorem ggX6_alp_X1_settle : GoodIn wsX6_alp wsX1_settle := goodIn_r _ [48, 49, 50, 51, 52, 53, 54, 55, 56, 57, 58, 32, 59, 60, 39, 40, 61, 42, 43, 80, 81, 82, 73, 74, 75, 76, 77, 78, 79] (by decide +kernel) (by decide +kernel)
set_option maxRecDepth 20000 in
theorem gX6_alp_X1_settle : GoodIn wsX6_alp (wsV RX6 73 RX1 yX1_settle wsX1_settle) := goodIn_app (goodIn_of _ (by decide +kernel)) ggX6_alp_X1_settle
theorem dX6_alp_0 : decode cX6_alp 0 = .ok (.aload_n 0, 1) := by decide +kernel
theorem dX6_alp_1 : decode cX6_alp 1 = .ok (.iconst 0, 1) := by decide +kernel
theorem dX6_alp_2 : decode cX6_alp 2 = .ok (.putfield 49, 3) := by decide +kernel
theorem dX6_alp_5 : decode cX6_alp 5 = .ok (.iload_n 1, 1) := by decide +kernel
theorem dX6_alp_6 : decode cX6_alp 6 = .ok (.iconst 4, 1) := by decide +kernel
theorem dX6_alp_7 : decode cX6_alp 7 = .ok (.invokestatic 53, 3) := by decide +kernel
theorem dX6_alp_10 : decode cX6_alp 10 = .ok (.ifCond .ne 5, 3) := by decide +kernel
theorem dX6_alp_13 : decode cX6_alp 13 = .ok (.iconst (-1), 1) := by decide +kernel
theorem dX6_alp_14 : decode cX6_alp 14 = .ok (.ireturn, 1) := by decide +kernel
theorem dX6_alp_15 : decode cX6_alp 15 = .ok (.iload_n 2, 1) := by decide +kernel
theorem dX6_alp_16 : decode cX6_alp 16 = .ok (.iconst 3, 1) := by decide +kernel
theorem dX6_alp_17 : decode cX6_alp 17 = .ok (.invokestatic 53, 3) := by decide +kernel
theorem dX6_alp_20 : decode cX6_alp 20 = .ok (.ifCond .ne 6, 3) := by decide +kernel
theorem dX6_alp_23 : decode cX6_alp 23 = .ok (.bipush (-2), 2) := by decide +kernel
theorem dX6_alp_25 : decode cX6_alp 25 = .ok (.ireturn, 1) := by decide +kernel
theorem dX6_alp_26 : decode cX6_alp 26 = .ok (.aload_n 0, 1) := by decide +kernel
theorem dX6_alp_27 : decode cX6_alp 27 = .ok (.getfield 13, 3) := by decide +kernel
theorem dX6_alp_30 : decode cX6_alp 30 = .ok (.iload_n 1, 1) := by decide +kernel
theorem dX6_alp_31 : decode cX6_alp 31 = .ok (.aaload, 1) := by decide +kernel
theorem dX6_alp_32 : decode cX6_alp 32 = .ok (.astore 5, 2) := by decide +kernel
theorem dX6_alp_34 : decode cX6_alp 34 = .ok (.aload 5, 2) := by decide +kernel
theorem dX6_alp_36 : decode cX6_alp 36 = .ok (.iload_n 2, 1) := by decide +kernel
theorem dX6_alp_37 : decode cX6_alp 37 = .ok (.invokevirtual 57, 3) := by decide +kernel
theorem dX6_alp_40 : decode cX6_alp 40 = .ok (.istore 6, 2) := by decide +kernel
theorem dX6_alp_42 : decode cX6_alp 42 = .ok (.iload 6, 2) := by decide +kernel
theorem dX6_alp_44 : decode cX6_alp 44 = .ok (.ifCond .eq 10, 3) := by decide +kernel
theorem dX6_alp_47 : decode cX6_alp 47 = .ok (.aload_n 0, 1) := by decide +kernel
theorem dX6_alp_48 : decode cX6_alp 48 = .ok (.iload 6, 2) := by decide +kernel
theorem dX6_alp_50 : decode cX6_alp 50 = .ok (.invokevirtual 61, 3) := by decide +kernel
theorem dX6_alp_53 : decode cX6_alp 53 = .ok (.ireturn, 1) := by decide +kernel
theorem dX6_alp_54 : decode cX6_alp 54 = .ok (.iload 4, 2) := by decide +kernel
theorem dX6_alp_56 : decode cX6_alp 56 = .ok (.ifCond .ge 9, 3) := by decide +kernel
theorem dX6_alp_59 : decode cX6_alp 59 = .ok (.aload_n 0, 1) := by decide +kernel
theorem dX6_alp_60 : decode cX6_alp 60 = .ok (.iconst 4, 1) := by decide +kernel
theorem dX6_alp_61 : decode cX6_alp 61 = .ok (.invokevirtual 61, 3) := by decide +kernel
theorem dX6_alp_64 : decode cX6_alp 64 = .ok (.ireturn, 1) := by decide +kernel
theorem dX6_alp_65 : decode cX6_alp 65 = .ok (.aload 5, 2) := by decide +kernel
theorem dX6_alp_67 : decode cX6_alp 67 = .ok (.iload_n 3, 1) := by decide +kernel
theorem dX6_alp_68 : decode cX6_alp 68 = .ok (.iload 4, 2) := by decide +kernel
theorem dX6_alp_70 : decode cX6_alp 70 = .ok (.invokevirtual 64, 3) := by decide +kernel
theorem dX6_alp_73 : decode cX6_alp 73 = .ok (.ifCond .ne 9, 3) := by decide +kernel
theorem dX6_alp_76 : decode cX6_alp 76 = .ok (.aload_n 0, 1) := by decide +kernel
theorem dX6_alp_77 : decode cX6_alp 77 = .ok (.iconst 3, 1) := by decide +kernel
theorem dX6_alp_78 : decode cX6_alp 78 = .ok (.invokevirtual 61, 3) := by decide +kernel
theorem dX6_alp_81 : decode cX6_alp 81 = .ok (.ireturn, 1) := by decide +kernel
theorem dX6_alp_82 : decode cX6_alp 82 = .ok (.aload 5, 2) := by decide +kernel
theorem dX6_alp_84 : decode cX6_alp 84 = .ok (.iload_n 3, 1) := by decide +kernel
theorem dX6_alp_85 : decode cX6_alp 85 = .ok (.iload 4, 2) := by decide +kernel
theorem dX6_alp_87 : decode cX6_alp 87 = .ok (.invokestatic 67, 3) := by decide +kernel
theorem dX6_alp_90 : decode cX6_alp 90 = .ok (.istore 7, 2) := by decide +kernel
theorem dX6_alp_92 : decode cX6_alp 92 = .ok (.iload 7, 2) := by decide +kernel
theorem dX6_alp_94 : decode cX6_alp 94 = .ok (.bipush (-9), 2) := by decide +kernel
theorem dX6_alp_96 : decode cX6_alp 96 = .ok (.if_icmp .eq 9, 3) := by decide +kernel
theorem dX6_alp_99 : decode cX6_alp 99 = .ok (.bipush (-100), 2) := by decide +kernel
theorem dX6_alp_101 : decode cX6_alp 101 = .ok (.iload 7, 2) := by decide +kernel
theorem dX6_alp_103 : decode cX6_alp 103 = .ok (.isub, 1) := by decide +kernel
theorem dX6_alp_104 : decode cX6_alp 104 = .ok (.ireturn, 1) := by decide +kernel
theorem dX6_alp_105 : decode cX6_alp 105 = .ok (.aload_n 0, 1) := by decide +kernel
theorem dX6_alp_106 : decode cX6_alp 106 = .ok (.getfield 20, 3) := by decide +kernel
theorem dX6_alp_109 : decode cX6_alp 109 = .ok (.aload 5, 2) := by decide +kernel
theorem dX6_alp_111 : decode cX6_alp 111 = .ok (.iload_n 3, 1) := by decide +kernel
theorem dX6_alp_112 : decode cX6_alp 112 = .ok (.iload 4, 2) := by decide +kernel
theorem dX6_alp_114 : decode cX6_alp 114 = .ok (.invokevirtual 73, 3) := by decide +kernel
theorem dX6_alp_117 : decode cX6_alp 117 = .ok (.aload_n 0, 1) := by decide +kernel
theorem dX6_alp_118 : decode cX6_alp 118 = .ok (.getfield 27, 3) := by decide +kernel
theorem dX6_alp_121 : decode cX6_alp 121 = .ok (.iconst 0, 1) := by decide +kernel
theorem dX6_alp_122 : decode cX6_alp 122 = .ok (.putfield 77, 3) := by decide +kernel
theorem dX6_alp_125 : decode cX6_alp 125 = .ok (.aload_n 0, 1) := by decide +kernel
theorem dX6_alp_126 : decode cX6_alp 126 = .ok (.getfield 20, 3) := by decide +kernel
theorem dX6_alp_129 : decode cX6_alp 129 = .ok (.getfield 80, 3) := by decide +kernel
theorem dX6_alp_132 : decode cX6_alp 132 = .ok (.ireturn, 1) := by decide +kernel
set_option maxRecDepth 20000 in
theorem ggX6_ofBell_X1_hasBell : GoodIn wsX6_ofBell wsX1_hasBell := goodIn_r _ [10, 11, 12, 13, 14, 22, 23, 24, 25, 26, 27, 28] (by decide +kernel) (by decide +kernel)
set_option maxRecDepth 20000 in
theorem gX6_ofBell_X1_hasBell : GoodIn wsX6_ofBell (wsV RX6 81 RX1 yX1_hasBell wsX1_hasBell) := goodIn_app (goodIn_of _ (by decide +kernel)) ggX6_ofBell_X1_hasBell
theorem dX6_ofBell_0 : decode cX6_ofBell 0 = .ok (.aload_n 0, 1) := by decide +kernel
theorem dX6_ofBell_1 : decode cX6_ofBell 1 = .ok (.getfield 20, 3) := by decide +kernel
theorem dX6_ofBell_4 : decode cX6_ofBell 4 = .ok (.iload_n 1, 1) := by decide +kernel
theorem dX6_ofBell_5 : decode cX6_ofBell 5 = .ok (.invokevirtual 81, 3) := by decide +kernel
theorem dX6_ofBell_8 : decode cX6_ofBell 8 = .ok (.ifCond .ne 5, 3) := by decide +kernel
theorem dX6_ofBell_11 : decode cX6_ofBell 11 = .ok (.iconst (-1), 1) := by decide +kernel
theorem dX6_ofBell_12 : decode cX6_ofBell 12 = .ok (.ireturn, 1) := by decide +kernel
theorem dX6_ofBell_13 : decode cX6_ofBell 13 = .ok (.iload_n 2, 1) := by decide +kernel
theorem dX6_ofBell_14 : decode cX6_ofBell 14 = .ok (.tableswitch 70 0 3 #[30, 40, 50, 60], 30) := by decide +kernel
theorem dX6_ofBell_44 : decode cX6_ofBell 44 = .ok (.aload_n 0, 1) := by decide +kernel
theorem dX6_ofBell_45 : decode cX6_ofBell 45 = .ok (.getfield 20, 3) := by decide +kernel
theorem dX6_ofBell_48 : decode cX6_ofBell 48 = .ok (.getfield 85, 3) := by decide +kernel
theorem dX6_ofBell_51 : decode cX6_ofBell 51 = .ok (.iload_n 1, 1) := by decide +kernel
theorem dX6_ofBell_52 : decode cX6_ofBell 52 = .ok (.iaload, 1) := by decide +kernel
theorem dX6_ofBell_53 : decode cX6_ofBell 53 = .ok (.ireturn, 1) := by decide +kernel
theorem dX6_ofBell_54 : decode cX6_ofBell 54 = .ok (.aload_n 0, 1) := by decide +kernel
theorem dX6_ofBell_55 : decode cX6_ofBell 55 = .ok (.getfield 20, 3) := by decide +kernel
theorem dX6_ofBell_58 : decode cX6_ofBell 58 = .ok (.getfield 89, 3) := by decide +kernel
theorem dX6_ofBell_61 : decode cX6_ofBell 61 = .ok (.iload_n 1, 1) := by decide +kernel
theorem dX6_ofBell_62 : decode cX6_ofBell 62 = .ok (.iaload, 1) := by decide +kernel
theorem dX6_ofBell_63 : decode cX6_ofBell 63 = .ok (.ireturn, 1) := by decide +kernel
theorem dX6_ofBell_64 : decode cX6_ofBell 64 = .ok (.aload_n 0, 1) := by decide +kernel
theorem dX6_ofBell_65 : decode cX6_ofBell 65 = .ok (.getfield 20, 3) := by decide +kernel
theorem dX6_ofBell_68 : decode cX6_ofBell 68 = .ok (.getfield 92, 3) := by decide +kernel
theorem dX6_ofBell_71 : decode cX6_ofBell 71 = .ok (.iload_n 1, 1) := by decide +kernel
theorem dX6_ofBell_72 : decode cX6_ofBell 72 = .ok (.iaload, 1) := by decide +kernel
theorem dX6_ofBell_73 : decode cX6_ofBell 73 = .ok (.ireturn, 1) := by decide +kernel
theorem dX6_ofBell_74 : decode cX6_ofBell 74 = .ok (.aload_n 0, 1) := by decide +kernel
theorem dX6_ofBell_75 : decode cX6_ofBell 75 = .ok (.getfield 20, 3) := by decide +kernel
theorem dX6_ofBell_78 : decode cX6_ofBell 78 = .ok (.getfield 95, 3) := by decide +kernel
theorem dX6_ofBell_81 : decode cX6_ofBell 81 = .ok (.iload_n 1, 1) := by decide +kernel
theorem dX6_ofBell_82 : decode cX6_ofBell 82 = .ok (.iaload, 1) := by decide +kernel
theorem dX6_ofBell_83 : decode cX6_ofBell 83 = .ok (.ireturn, 1) := by decide +kernel
theorem dX6_ofBell_84 : decode cX6_ofBell 84 = .ok (.bipush (-2), 2) := by decide +kernel
theorem dX6_ofBell_86 : decode cX6_ofBell 86 = .ok (.ireturn, 1) := by decide +kernel
set_option maxRecDepth 20000 in
theorem ggX6_cheer_X1_hasBell : GoodIn wsX6_cheer wsX1_hasBell := goodIn_r _ [7, 8, 9, 10, 11, 23, 24, 25, 26, 27, 28, 29] (by decide +kernel) (by decide +kernel)
set_option maxRecDepth 20000 in
theorem gX6_cheer_X1_hasBell : GoodIn wsX6_cheer (wsV RX6 81 RX1 yX1_hasBell wsX1_hasBell) := goodIn_app (goodIn_of _ (by decide +kernel)) ggX6_cheer_X1_hasBell
set_option maxRecDepth 20000 in
theorem ggX6_cheer_X6_isBelow : GoodIn wsX6_cheer wsX6_isBelow := goodIn_r _ [11] (by decide +kernel) (by decide +kernel)
set_option maxRecDepth 20000 in
theorem gX6_cheer_X6_isBelow : GoodIn wsX6_cheer (va_wsS RX6 53 yX6_isBelow wsX6_isBelow) := goodIn_app (goodIn_of _ (by decide +kernel)) ggX6_cheer_X6_isBelow
set_option maxRecDepth 20000 in
theorem ggX6_cheer_X6_exchange : GoodIn wsX6_cheer wsX6_exchange := goodIn_r _ [15] (by decide +kernel) (by decide +kernel)
set_option maxRecDepth 20000 in
theorem gX6_cheer_X6_exchange : GoodIn wsX6_cheer (va_wsS RX6 98 yX6_exchange wsX6_exchange) := goodIn_app (goodIn_of _ (by decide +kernel)) ggX6_cheer_X6_exchange
theorem dX6_cheer_0 : decode cX6_cheer 0 = .ok (.aload_n 0, 1) := by decide +kernel
theorem dX6_cheer_1 : decode cX6_cheer 1 = .ok (.getfield 20, 3) := by decide +kernel
theorem dX6_cheer_4 : decode cX6_cheer 4 = .ok (.iload_n 1, 1) := by decide +kernel
theorem dX6_cheer_5 : decode cX6_cheer 5 = .ok (.invokevirtual 81, 3) := by decide +kernel
theorem dX6_cheer_8 : decode cX6_cheer 8 = .ok (.ifCond .ne 5, 3) := by decide +kernel
theorem dX6_cheer_11 : decode cX6_cheer 11 = .ok (.iconst (-1), 1) := by decide +kernel
theorem dX6_cheer_12 : decode cX6_cheer 12 = .ok (.ireturn, 1) := by decide +kernel
theorem dX6_cheer_13 : decode cX6_cheer 13 = .ok (.iload_n 2, 1) := by decide +kernel
theorem dX6_cheer_14 : decode cX6_cheer 14 = .ok (.iconst 4, 1) := by decide +kernel
theorem dX6_cheer_15 : decode cX6_cheer 15 = .ok (.invokestatic 53, 3) := by decide +kernel
theorem dX6_cheer_18 : decode cX6_cheer 18 = .ok (.ifCond .ne 6, 3) := by decide +kernel
theorem dX6_cheer_21 : decode cX6_cheer 21 = .ok (.bipush (-2), 2) := by decide +kernel
theorem dX6_cheer_23 : decode cX6_cheer 23 = .ok (.ireturn, 1) := by decide +kernel
theorem dX6_cheer_24 : decode cX6_cheer 24 = .ok (.aload_n 0, 1) := by decide +kernel
theorem dX6_cheer_25 : decode cX6_cheer 25 = .ok (.getfield 20, 3) := by decide +kernel
theorem dX6_cheer_28 : decode cX6_cheer 28 = .ok (.getfield 95, 3) := by decide +kernel
theorem dX6_cheer_31 : decode cX6_cheer 31 = .ok (.iload_n 1, 1) := by decide +kernel
theorem dX6_cheer_32 : decode cX6_cheer 32 = .ok (.iload_n 2, 1) := by decide +kernel
theorem dX6_cheer_33 : decode cX6_cheer 33 = .ok (.invokestatic 98, 3) := by decide +kernel
theorem dX6_cheer_36 : decode cX6_cheer 36 = .ok (.ireturn, 1) := by decide +kernel
set_option maxRecDepth 20000 in
theorem ggX6_recast_X1_hasBell : GoodIn wsX6_recast wsX1_hasBell := goodIn_r _ [7, 8, 9, 10, 11, 23, 24, 25, 26, 27, 28, 29] (by decide +kernel) (by decide +kernel)
set_option maxRecDepth 20000 in
theorem gX6_recast_X1_hasBell : GoodIn wsX6_recast (wsV RX6 81 RX1 yX1_hasBell wsX1_hasBell) := goodIn_app (goodIn_of _ (by decide +kernel)) ggX6_recast_X1_hasBell
set_option maxRecDepth 20000 in
theorem ggX6_recast_X6_isBelow : GoodIn wsX6_recast wsX6_isBelow := goodIn_r _ [11] (by decide +kernel) (by decide +kernel)
set_option maxRecDepth 20000 in
theorem gX6_recast_X6_isBelow : GoodIn wsX6_recast (va_wsS RX6 53 yX6_isBelow wsX6_isBelow) := goodIn_app (goodIn_of _ (by decide +kernel)) ggX6_recast_X6_isBelow
set_option maxRecDepth 20000 in
theorem ggX6_recast_X6_exchange : GoodIn wsX6_recast wsX6_exchange := goodIn_r _ [15] (by decide +kernel) (by decide +kernel)
set_option maxRecDepth 20000 in
theorem gX6_recast_X6_exchange : GoodIn wsX6_recast (va_wsS RX6 98 yX6_exchange wsX6_exchange) := goodIn_app (goodIn_of _ (by decide +kernel)) ggX6_recast_X6_exchange
theorem dX6_recast_0 : decode cX6_recast 0 = .ok (.aload_n 0, 1) := by decide +kernel
theorem dX6_recast_1 : decode cX6_recast 1 = .ok (.getfield 20, 3) := by decide +kernel
theorem dX6_recast_4 : decode cX6_recast 4 = .ok (.iload_n 1, 1) := by decide +kernel
theorem dX6_recast_5 : decode cX6_recast 5 = .ok (.invokevirtual 81, 3) := by decide +kernel
theorem dX6_recast_8 : decode cX6_recast 8 = .ok (.ifCond .ne 5, 3) := by decide +kernel
theorem dX6_recast_11 : decode cX6_recast 11 = .ok (.iconst (-1), 1) := by decide +kernel
theorem dX6_recast_12 : decode cX6_recast 12 = .ok (.ireturn, 1) := by decide +kernel
theorem dX6_recast_13 : decode cX6_recast 13 = .ok (.iload_n 2, 1) := by decide +kernel
theorem dX6_recast_14 : decode cX6_recast 14 = .ok (.bipush 10, 2) := by decide +kernel
theorem dX6_recast_16 : decode cX6_recast 16 = .ok (.invokestatic 53, 3) := by decide +kernel
theorem dX6_recast_19 : decode cX6_recast 19 = .ok (.ifCond .ne 6, 3) := by decide +kernel
theorem dX6_recast_22 : decode cX6_recast 22 = .ok (.bipush (-2), 2) := by decide +kernel
theorem dX6_recast_24 : decode cX6_recast 24 = .ok (.ireturn, 1) := by decide +kernel
theorem dX6_recast_25 : decode cX6_recast 25 = .ok (.aload_n 0, 1) := by decide +kernel
theorem dX6_recast_26 : decode cX6_recast 26 = .ok (.getfield 20, 3) := by decide +kernel
theorem dX6_recast_29 : decode cX6_recast 29 = .ok (.getfield 89, 3) := by decide +kernel
theorem dX6_recast_32 : decode cX6_recast 32 = .ok (.iload_n 1, 1) := by decide +kernel
theorem dX6_recast_33 : decode cX6_recast 33 = .ok (.iload_n 2, 1) := by decide +kernel
theorem dX6_recast_34 : decode cX6_recast 34 = .ok (.invokestatic 98, 3) := by decide +kernel
theorem dX6_recast_37 : decode cX6_recast 37 = .ok (.ireturn, 1) := by decide +kernel
set_option maxRecDepth 20000 in
theorem ggX6_go_X1_hasBell : GoodIn wsX6_go wsX1_hasBell := goodIn_r _ [7, 8, 9, 10, 11, 23, 24, 25, 26, 27, 28, 29] (by decide +kernel) (by decide +kernel)
set_option maxRecDepth 20000 in
theorem gX6_go_X1_hasBell : GoodIn wsX6_go (wsV RX6 81 RX1 yX1_hasBell wsX1_hasBell) := goodIn_app (goodIn_of _ (by decide +kernel)) ggX6_go_X1_hasBell
set_option maxRecDepth 20000 in
theorem ggX6_go_X6_isBelow : GoodIn wsX6_go wsX6_isBelow := goodIn_r _ [11] (by decide +kernel) (by decide +kernel)
set_option maxRecDepth 20000 in
theorem gX6_go_X6_isBelow : GoodIn wsX6_go (va_wsS RX6 53 yX6_isBelow wsX6_isBelow) := goodIn_app (goodIn_of _ (by decide +kernel)) ggX6_go_X6_isBelow
set_option maxRecDepth 20000 in
theorem ggX6_go_X6_exchange : GoodIn wsX6_go wsX6_exchange := goodIn_r _ [15] (by decide +kernel) (by decide +kernel)
set_option maxRecDepth 20000 in
theorem gX6_go_X6_exchange : GoodIn wsX6_go (va_wsS RX6 98 yX6_exchange wsX6_exchange) := goodIn_app (goodIn_of _ (by decide +kernel)) ggX6_go_X6_exchange
theorem dX6_go_0 : decode cX6_go 0 = .ok (.aload_n 0, 1) := by decide +kernel
theorem dX6_go_1 : decode cX6_go 1 = .ok (.getfield 20, 3) := by decide +kernel
theorem dX6_go_4 : decode cX6_go 4 = .ok (.iload_n 1, 1) := by decide +kernel
theorem dX6_go_5 : decode cX6_go 5 = .ok (.invokevirtual 81, 3) := by decide +kernel
theorem dX6_go_8 : decode cX6_go 8 = .ok (.ifCond .ne 5, 3) := by decide +kernel
theorem dX6_go_11 : decode cX6_go 11 = .ok (.iconst (-1), 1) := by decide +kernel
theorem dX6_go_12 : decode cX6_go 12 = .ok (.ireturn, 1) := by decide +kernel
theorem dX6_go_13 : decode cX6_go 13 = .ok (.iload_n 2, 1) := by decide +kernel
theorem dX6_go_14 : decode cX6_go 14 = .ok (.bipush 10, 2) := by decide +kernel
theorem dX6_go_16 : decode cX6_go 16 = .ok (.invokestatic 53, 3) := by decide +kernel
theorem dX6_go_19 : decode cX6_go 19 = .ok (.ifCond .ne 6, 3) := by decide +kernel
theorem dX6_go_22 : decode cX6_go 22 = .ok (.bipush (-2), 2) := by decide +kernel
theorem dX6_go_24 : decode cX6_go 24 = .ok (.ireturn, 1) := by decide +kernel
theorem dX6_go_25 : decode cX6_go 25 = .ok (.aload_n 0, 1) := by decide +kernel
theorem dX6_go_26 : decode cX6_go 26 = .ok (.getfield 20, 3) := by decide +kernel
theorem dX6_go_29 : decode cX6_go 29 = .ok (.getfield 92, 3) := by decide +kernel
theorem dX6_go_32 : decode cX6_go 32 = .ok (.iload_n 1, 1) := by decide +kernel
theorem dX6_go_33 : decode cX6_go 33 = .ok (.iload_n 2, 1) := by decide +kernel
theorem dX6_go_34 : decode cX6_go 34 = .ok (.invokestatic 98, 3) := by decide +kernel
theorem dX6_go_37 : decode cX6_go 37 = .ok (.ireturn, 1) := by decide +kernel
set_option maxRecDepth 20000 in
theorem ggX6_blow_X6_isBelow : GoodIn wsX6_blow wsX6_isBelow := goodIn_r _ [6] (by decide +kernel) (by decide +kernel)
set_option maxRecDepth 20000 in
theorem gX6_blow_X6_isBelow : GoodIn wsX6_blow (va_wsS RX6 53 yX6_isBelow wsX6_isBelow) := goodIn_app (goodIn_of _ (by decide +kernel)) ggX6_blow_X6_isBelow
set_option maxRecDepth 20000 in
theorem ggX6_blow_X1_isNone : GoodIn wsX6_blow wsX1_isNone := goodIn_r _ [11, 12, 20, 21, 22, 23, 24, 25, 26] (by decide +kernel) (by decide +kernel)
set_option maxRecDepth 20000 in
theorem gX6_blow_X1_isNone : GoodIn wsX6_blow (wsV RX6 102 RX1 yX1_isNone wsX1_isNone) := goodIn_app (goodIn_of _ (by decide +kernel)) ggX6_blow_X1_isNone
theorem dX6_blow_0 : decode cX6_blow 0 = .ok (.iload_n 1, 1) := by decide +kernel
theorem dX6_blow_1 : decode cX6_blow 1 = .ok (.iconst 3, 1) := by decide +kernel
theorem dX6_blow_2 : decode cX6_blow 2 = .ok (.invokestatic 53, 3) := by decide +kernel
theorem dX6_blow_5 : decode cX6_blow 5 = .ok (.ifCond .ne 6, 3) := by decide +kernel
theorem dX6_blow_8 : decode cX6_blow 8 = .ok (.bipush (-2), 2) := by decide +kernel
theorem dX6_blow_10 : decode cX6_blow 10 = .ok (.ireturn, 1) := by decide +kernel
theorem dX6_blow_11 : decode cX6_blow 11 = .ok (.aload_n 0, 1) := by decide +kernel
theorem dX6_blow_12 : decode cX6_blow 12 = .ok (.getfield 20, 3) := by decide +kernel
theorem dX6_blow_15 : decode cX6_blow 15 = .ok (.invokevirtual 102, 3) := by decide +kernel
theorem dX6_blow_18 : decode cX6_blow 18 = .ok (.ifCond .eq 6, 3) := by decide +kernel
theorem dX6_blow_21 : decode cX6_blow 21 = .ok (.bipush (-3), 2) := by decide +kernel
theorem dX6_blow_23 : decode cX6_blow 23 = .ok (.ireturn, 1) := by decide +kernel
theorem dX6_blow_24 : decode cX6_blow 24 = .ok (.aload_n 0, 1) := by decide +kernel
theorem dX6_blow_25 : decode cX6_blow 25 = .ok (.getfield 20, 3) := by decide +kernel
theorem dX6_blow_28 : decode cX6_blow 28 = .ok (.getfield 106, 3) := by decide +kernel
theorem dX6_blow_31 : decode cX6_blow 31 = .ok (.istore_n 2, 1) := by decide +kernel
theorem dX6_blow_32 : decode cX6_blow 32 = .ok (.aload_n 0, 1) := by decide +kernel
theorem dX6_blow_33 : decode cX6_blow 33 = .ok (.getfield 20, 3) := by decide +kernel
theorem dX6_blow_36 : decode cX6_blow 36 = .ok (.iload_n 1, 1) := by decide +kernel
theorem dX6_blow_37 : decode cX6_blow 37 = .ok (.putfield 106, 3) := by decide +kernel
theorem dX6_blow_40 : decode cX6_blow 40 = .ok (.iload_n 2, 1) := by decide +kernel
theorem dX6_blow_41 : decode cX6_blow 41 = .ok (.ireturn, 1) := by decide +kernel
set_option maxRecDepth 20000 in
theorem ggX6_sound_X1_hasBell : GoodIn wsX6_sound wsX1_hasBell := goodIn_r _ [6, 7, 8, 9, 10, 38, 39, 40, 41, 42, 43, 44] (by decide +kernel) (by decide +kernel)
set_option maxRecDepth 20000 in
theorem gX6_sound_X1_hasBell : GoodIn wsX6_sound (wsV RX6 81 RX1 yX1_hasBell wsX1_hasBell) := goodIn_app (goodIn_of _ (by decide +kernel)) ggX6_sound_X1_hasBell
set_option maxRecDepth 20000 in
theorem ggX6_sound_X1_soundNow : GoodIn wsX6_sound wsX1_soundNow := goodIn_r _ [14, 15, 16, 17, 18, 5, 19, 20, 21, 22, 23, 9, 24, 25, 26, 27, 28, 38, 39, 40, 41, 42, 43, 44] (by decide +kernel) (by decide +kernel)
set_option maxRecDepth 20000 in
theorem gX6_sound_X1_soundNow : GoodIn wsX6_sound (wsV RX6 109 RX1 yX1_soundNow wsX1_soundNow) := goodIn_app (goodIn_of _ (by decide +kernel)) ggX6_sound_X1_soundNow
set_option maxRecDepth 20000 in
theorem ggX6_sound_X6_isBelow : GoodIn wsX6_sound wsX6_isBelow := goodIn_r _ [10] (by decide +kernel) (by decide +kernel)
set_option maxRecDepth 20000 in
theorem gX6_sound_X6_isBelow : GoodIn wsX6_sound (va_wsS RX6 53 yX6_isBelow wsX6_isBelow) := goodIn_app (goodIn_of _ (by decide +kernel)) ggX6_sound_X6_isBelow
set_option maxRecDepth 20000 in
theorem ggX6_sound_X1_soundIn : GoodIn wsX6_sound wsX1_soundIn := goodIn_r _ [19, 20, 21, 22, 23, 9, 24, 25, 26, 27, 28, 38, 39, 40, 41, 42, 43, 44] (by decide +kernel) (by decide +kernel)
set_option maxRecDepth 20000 in
theorem gX6_sound_X1_soundIn : GoodIn wsX6_sound (wsV RX6 112 RX1 yX1_soundIn wsX1_soundIn) := goodIn_app (goodIn_of _ (by decide +kernel)) ggX6_sound_X1_soundIn
theorem dX6_sound_0 : decode cX6_sound 0 = .ok (.aload_n 0, 1) := by decide +kernel
theorem dX6_sound_1 : decode cX6_sound 1 = .ok (.getfield 20, 3) := by decide +kernel
theorem dX6_sound_4 : decode cX6_sound 4 = .ok (.iload_n 1, 1) := by decide +kernel
theorem dX6_sound_5 : decode cX6_sound 5 = .ok (.invokevirtual 81, 3) := by decide +kernel
theorem dX6_sound_8 : decode cX6_sound 8 = .ok (.ifCond .ne 5, 3) := by decide +kernel
theorem dX6_sound_11 : decode cX6_sound 11 = .ok (.iconst (-1), 1) := by decide +kernel
theorem dX6_sound_12 : decode cX6_sound 12 = .ok (.ireturn, 1) := by decide +kernel
theorem dX6_sound_13 : decode cX6_sound 13 = .ok (.iload_n 2, 1) := by decide +kernel
theorem dX6_sound_14 : decode cX6_sound 14 = .ok (.bipush (-9), 2) := by decide +kernel
theorem dX6_sound_16 : decode cX6_sound 16 = .ok (.if_icmp .ne 12, 3) := by decide +kernel
theorem dX6_sound_19 : decode cX6_sound 19 = .ok (.aload_n 0, 1) := by decide +kernel
theorem dX6_sound_20 : decode cX6_sound 20 = .ok (.getfield 20, 3) := by decide +kernel
theorem dX6_sound_23 : decode cX6_sound 23 = .ok (.iload_n 1, 1) := by decide +kernel
theorem dX6_sound_24 : decode cX6_sound 24 = .ok (.invokevirtual 109, 3) := by decide +kernel
theorem dX6_sound_27 : decode cX6_sound 27 = .ok (.ireturn, 1) := by decide +kernel
