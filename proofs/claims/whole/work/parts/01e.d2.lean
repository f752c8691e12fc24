theorem dX2_init_0 : decode cX2_init 0 = .ok (.aload_n 0, 1) := by decide +kernel
theorem dX2_init_1 : decode cX2_init 1 = .ok (.invokespecial 1, 3) := by decide +kernel
theorem dX2_init_4 : decode cX2_init 4 = .ok (.aload_n 0, 1) := by decide +kernel
theorem dX2_init_5 : decode cX2_init 5 = .ok (.bipush 6, 2) := by decide +kernel
theorem dX2_init_7 : decode cX2_init 7 = .ok (.newarray .int, 2) := by decide +kernel
theorem dX2_init_9 : decode cX2_init 9 = .ok (.putfield 7, 3) := by decide +kernel
theorem dX2_init_12 : decode cX2_init 12 = .ok (.aload_n 0, 1) := by decide +kernel
theorem dX2_init_13 : decode cX2_init 13 = .ok (.sipush 240, 3) := by decide +kernel
theorem dX2_init_16 : decode cX2_init 16 = .ok (.newarray .int, 2) := by decide +kernel
theorem dX2_init_18 : decode cX2_init 18 = .ok (.putfield 13, 3) := by decide +kernel
theorem dX2_init_21 : decode cX2_init 21 = .ok (.aload_n 0, 1) := by decide +kernel
theorem dX2_init_22 : decode cX2_init 22 = .ok (.bipush 20, 2) := by decide +kernel
theorem dX2_init_24 : decode cX2_init 24 = .ok (.newarray .int, 2) := by decide +kernel
theorem dX2_init_26 : decode cX2_init 26 = .ok (.putfield 16, 3) := by decide +kernel
theorem dX2_init_29 : decode cX2_init 29 = .ok (.aload_n 0, 1) := by decide +kernel
theorem dX2_init_30 : decode cX2_init 30 = .ok (.bipush 24, 2) := by decide +kernel
theorem dX2_init_32 : decode cX2_init 32 = .ok (.newarray .int, 2) := by decide +kernel
theorem dX2_init_34 : decode cX2_init 34 = .ok (.putfield 19, 3) := by decide +kernel
theorem dX2_init_37 : decode cX2_init 37 = .ok (.aload_n 0, 1) := by decide +kernel
theorem dX2_init_38 : decode cX2_init 38 = .ok (.bipush 24, 2) := by decide +kernel
theorem dX2_init_40 : decode cX2_init 40 = .ok (.newarray .int, 2) := by decide +kernel
theorem dX2_init_42 : decode cX2_init 42 = .ok (.putfield 22, 3) := by decide +kernel
theorem dX2_init_45 : decode cX2_init 45 = .ok (.aload_n 0, 1) := by decide +kernel
theorem dX2_init_46 : decode cX2_init 46 = .ok (.bipush 24, 2) := by decide +kernel
theorem dX2_init_48 : decode cX2_init 48 = .ok (.newarray .int, 2) := by decide +kernel
theorem dX2_init_50 : decode cX2_init 50 = .ok (.putfield 25, 3) := by decide +kernel
theorem dX2_init_53 : decode cX2_init 53 = .ok (.aload_n 0, 1) := by decide +kernel
theorem dX2_init_54 : decode cX2_init 54 = .ok (.bipush 24, 2) := by decide +kernel
theorem dX2_init_56 : decode cX2_init 56 = .ok (.newarray .int, 2) := by decide +kernel
theorem dX2_init_58 : decode cX2_init 58 = .ok (.putfield 28, 3) := by decide +kernel
theorem dX2_init_61 : decode cX2_init 61 = .ok (.aload_n 0, 1) := by decide +kernel
theorem dX2_init_62 : decode cX2_init 62 = .ok (.bipush 24, 2) := by decide +kernel
theorem dX2_init_64 : decode cX2_init 64 = .ok (.newarray .int, 2) := by decide +kernel
theorem dX2_init_66 : decode cX2_init 66 = .ok (.putfield 31, 3) := by decide +kernel
theorem dX2_init_69 : decode cX2_init 69 = .ok (.aload_n 0, 1) := by decide +kernel
theorem dX2_init_70 : decode cX2_init 70 = .ok (.bipush 24, 2) := by decide +kernel
theorem dX2_init_72 : decode cX2_init 72 = .ok (.newarray .int, 2) := by decide +kernel
theorem dX2_init_74 : decode cX2_init 74 = .ok (.putfield 34, 3) := by decide +kernel
theorem dX2_init_77 : decode cX2_init 77 = .ok (.aload_n 0, 1) := by decide +kernel
theorem dX2_init_78 : decode cX2_init 78 = .ok (.bipush 24, 2) := by decide +kernel
theorem dX2_init_80 : decode cX2_init 80 = .ok (.newarray .int, 2) := by decide +kernel
theorem dX2_init_82 : decode cX2_init 82 = .ok (.putfield 37, 3) := by decide +kernel
theorem dX2_init_85 : decode cX2_init 85 = .ok (.aload_n 0, 1) := by decide +kernel
theorem dX2_init_86 : decode cX2_init 86 = .ok (.bipush 24, 2) := by decide +kernel
theorem dX2_init_88 : decode cX2_init 88 = .ok (.newarray .int, 2) := by decide +kernel
theorem dX2_init_90 : decode cX2_init 90 = .ok (.putfield 40, 3) := by decide +kernel
theorem dX2_init_93 : decode cX2_init 93 = .ok (.aload_n 0, 1) := by decide +kernel
theorem dX2_init_94 : decode cX2_init 94 = .ok (.bipush 24, 2) := by decide +kernel
theorem dX2_init_96 : decode cX2_init 96 = .ok (.newarray .int, 2) := by decide +kernel
theorem dX2_init_98 : decode cX2_init 98 = .ok (.putfield 43, 3) := by decide +kernel
theorem dX2_init_101 : decode cX2_init 101 = .ok (.aload_n 0, 1) := by decide +kernel
theorem dX2_init_102 : decode cX2_init 102 = .ok (.bipush 24, 2) := by decide +kernel
theorem dX2_init_104 : decode cX2_init 104 = .ok (.newarray .int, 2) := by decide +kernel
theorem dX2_init_106 : decode cX2_init 106 = .ok (.putfield 46, 3) := by decide +kernel
theorem dX2_init_109 : decode cX2_init 109 = .ok (.aload_n 0, 1) := by decide +kernel
theorem dX2_init_110 : decode cX2_init 110 = .ok (.sipush 144, 3) := by decide +kernel
theorem dX2_init_113 : decode cX2_init 113 = .ok (.newarray .int, 2) := by decide +kernel
theorem dX2_init_115 : decode cX2_init 115 = .ok (.putfield 49, 3) := by decide +kernel
theorem dX2_init_118 : decode cX2_init 118 = .ok (.aload_n 0, 1) := by decide +kernel
theorem dX2_init_119 : decode cX2_init 119 = .ok (.sipush 144, 3) := by decide +kernel
theorem dX2_init_122 : decode cX2_init 122 = .ok (.newarray .int, 2) := by decide +kernel
theorem dX2_init_124 : decode cX2_init 124 = .ok (.putfield 52, 3) := by decide +kernel
theorem dX2_init_127 : decode cX2_init 127 = .ok (.iconst 0, 1) := by decide +kernel
theorem dX2_init_128 : decode cX2_init 128 = .ok (.istore_n 1, 1) := by decide +kernel
theorem dX2_init_129 : decode cX2_init 129 = .ok (.iload_n 1, 1) := by decide +kernel
theorem dX2_init_130 : decode cX2_init 130 = .ok (.sipush 240, 3) := by decide +kernel
theorem dX2_init_133 : decode cX2_init 133 = .ok (.if_icmp .ge 17, 3) := by decide +kernel
theorem dX2_init_136 : decode cX2_init 136 = .ok (.aload_n 0, 1) := by decide +kernel
theorem dX2_init_137 : decode cX2_init 137 = .ok (.getfield 13, 3) := by decide +kernel
theorem dX2_init_140 : decode cX2_init 140 = .ok (.iload_n 1, 1) := by decide +kernel
theorem dX2_init_141 : decode cX2_init 141 = .ok (.bipush 100, 2) := by decide +kernel
theorem dX2_init_143 : decode cX2_init 143 = .ok (.iastore, 1) := by decide +kernel
theorem dX2_init_144 : decode cX2_init 144 = .ok (.iinc 1 1, 3) := by decide +kernel
theorem dX2_init_147 : decode cX2_init 147 = .ok (.goto (-18), 3) := by decide +kernel
theorem dX2_init_150 : decode cX2_init 150 = .ok (.return_, 1) := by decide +kernel
theorem dX2_thrown_0 : decode cX2_thrown 0 = .ok (.aload_n 0, 1) := by decide +kernel
theorem dX2_thrown_1 : decode cX2_thrown 1 = .ok (.getfield 55, 3) := by decide +kernel
theorem dX2_thrown_4 : decode cX2_thrown 4 = .ok (.ireturn, 1) := by decide +kernel
theorem dX2_holds_0 : decode cX2_holds 0 = .ok (.aload_n 0, 1) := by decide +kernel
theorem dX2_holds_1 : decode cX2_holds 1 = .ok (.iload_n 1, 1) := by decide +kernel
theorem dX2_holds_2 : decode cX2_holds 2 = .ok (.putfield 55, 3) := by decide +kernel
theorem dX2_holds_5 : decode cX2_holds 5 = .ok (.iload_n 1, 1) := by decide +kernel
theorem dX2_holds_6 : decode cX2_holds 6 = .ok (.ifCond .ne 7, 3) := by decide +kernel
theorem dX2_holds_9 : decode cX2_holds 9 = .ok (.iconst 1, 1) := by decide +kernel
theorem dX2_holds_10 : decode cX2_holds 10 = .ok (.goto 4, 3) := by decide +kernel
theorem dX2_holds_13 : decode cX2_holds 13 = .ok (.iconst 0, 1) := by decide +kernel
theorem dX2_holds_14 : decode cX2_holds 14 = .ok (.ireturn, 1) := by decide +kernel
theorem dX2_isIn_0 : decode cX2_isIn 0 = .ok (.iload_n 0, 1) := by decide +kernel
theorem dX2_isIn_1 : decode cX2_isIn 1 = .ok (.iload_n 1, 1) := by decide +kernel
theorem dX2_isIn_2 : decode cX2_isIn 2 = .ok (.if_icmp .lt 12, 3) := by decide +kernel
theorem dX2_isIn_5 : decode cX2_isIn 5 = .ok (.iload_n 0, 1) := by decide +kernel
theorem dX2_isIn_6 : decode cX2_isIn 6 = .ok (.iload_n 2, 1) := by decide +kernel
theorem dX2_isIn_7 : decode cX2_isIn 7 = .ok (.if_icmp .gt 7, 3) := by decide +kernel
theorem dX2_isIn_10 : decode cX2_isIn 10 = .ok (.iconst 1, 1) := by decide +kernel
theorem dX2_isIn_11 : decode cX2_isIn 11 = .ok (.goto 4, 3) := by decide +kernel
theorem dX2_isIn_14 : decode cX2_isIn 14 = .ok (.iconst 0, 1) := by decide +kernel
theorem dX2_isIn_15 : decode cX2_isIn 15 = .ok (.ireturn, 1) := by decide +kernel
set_option maxRecDepth 20000 in
theorem ggX2_isLease_X2_isIn : GoodIn wsX2_isLease wsX2_isIn := goodIn_r _ [5] (by decide +kernel) (by decide +kernel)
set_option maxRecDepth 20000 in
theorem gX2_isLease_X2_isIn : GoodIn wsX2_isLease (va_wsS RX2 62 yX2_isIn wsX2_isIn) := goodIn_app (goodIn_of _ (by decide +kernel)) ggX2_isLease_X2_isIn
theorem dX2_isLease_0 : decode cX2_isLease 0 = .ok (.iload_n 1, 1) := by decide +kernel
theorem dX2_isLease_1 : decode cX2_isLease 1 = .ok (.iconst 0, 1) := by decide +kernel
theorem dX2_isLease_2 : decode cX2_isLease 2 = .ok (.aload_n 0, 1) := by decide +kernel
theorem dX2_isLease_3 : decode cX2_isLease 3 = .ok (.getfield 59, 3) := by decide +kernel
theorem dX2_isLease_6 : decode cX2_isLease 6 = .ok (.iconst 1, 1) := by decide +kernel
theorem dX2_isLease_7 : decode cX2_isLease 7 = .ok (.isub, 1) := by decide +kernel
theorem dX2_isLease_8 : decode cX2_isLease 8 = .ok (.invokestatic 62, 3) := by decide +kernel
theorem dX2_isLease_11 : decode cX2_isLease 11 = .ok (.ireturn, 1) := by decide +kernel
set_option maxRecDepth 20000 in
theorem ggX2_setArea_X2_isIn : GoodIn wsX2_setArea wsX2_isIn := goodIn_r _ [5] (by decide +kernel) (by decide +kernel)
set_option maxRecDepth 20000 in
theorem gX2_setArea_X2_isIn : GoodIn wsX2_setArea (va_wsS RX2 62 yX2_isIn wsX2_isIn) := goodIn_app (goodIn_of _ (by decide +kernel)) ggX2_setArea_X2_isIn
set_option maxRecDepth 20000 in
theorem ggX2_setArea_X2_holds : GoodIn wsX2_setArea wsX2_holds := goodIn_r _ [9, 10, 11, 12, 13, 14, 15, 16, 17, 18, 19, 20, 21, 22, 23, 24, 25, 26, 27] (by decide +kernel) (by decide +kernel)
set_option maxRecDepth 20000 in
theorem gX2_setArea_X2_holds : GoodIn wsX2_setArea (wsV RX2 66 RX2 yX2_holds wsX2_holds) := goodIn_app (goodIn_of _ (by decide +kernel)) ggX2_setArea_X2_holds
theorem dX2_setArea_0 : decode cX2_setArea 0 = .ok (.aload_n 0, 1) := by decide +kernel
theorem dX2_setArea_1 : decode cX2_setArea 1 = .ok (.iload_n 1, 1) := by decide +kernel
theorem dX2_setArea_2 : decode cX2_setArea 2 = .ok (.iconst 0, 1) := by decide +kernel
theorem dX2_setArea_3 : decode cX2_setArea 3 = .ok (.iconst 5, 1) := by decide +kernel
theorem dX2_setArea_4 : decode cX2_setArea 4 = .ok (.invokestatic 62, 3) := by decide +kernel
theorem dX2_setArea_7 : decode cX2_setArea 7 = .ok (.ifCond .ne 7, 3) := by decide +kernel
theorem dX2_setArea_10 : decode cX2_setArea 10 = .ok (.iconst 1, 1) := by decide +kernel
theorem dX2_setArea_11 : decode cX2_setArea 11 = .ok (.goto 19, 3) := by decide +kernel
theorem dX2_setArea_14 : decode cX2_setArea 14 = .ok (.iload_n 2, 1) := by decide +kernel
theorem dX2_setArea_15 : decode cX2_setArea 15 = .ok (.iconst 0, 1) := by decide +kernel
theorem dX2_setArea_16 : decode cX2_setArea 16 = .ok (.sipush 999, 3) := by decide +kernel
theorem dX2_setArea_19 : decode cX2_setArea 19 = .ok (.invokestatic 62, 3) := by decide +kernel
theorem dX2_setArea_22 : decode cX2_setArea 22 = .ok (.ifCond .eq 7, 3) := by decide +kernel
theorem dX2_setArea_25 : decode cX2_setArea 25 = .ok (.iconst 0, 1) := by decide +kernel
theorem dX2_setArea_26 : decode cX2_setArea 26 = .ok (.goto 4, 3) := by decide +kernel
theorem dX2_setArea_29 : decode cX2_setArea 29 = .ok (.iconst 2, 1) := by decide +kernel
theorem dX2_setArea_30 : decode cX2_setArea 30 = .ok (.invokevirtual 66, 3) := by decide +kernel
theorem dX2_setArea_33 : decode cX2_setArea 33 = .ok (.ifCond .ne 5, 3) := by decide +kernel
theorem dX2_setArea_36 : decode cX2_setArea 36 = .ok (.iconst 0, 1) := by decide +kernel
theorem dX2_setArea_37 : decode cX2_setArea 37 = .ok (.ireturn, 1) := by decide +kernel
theorem dX2_setArea_38 : decode cX2_setArea 38 = .ok (.aload_n 0, 1) := by decide +kernel
theorem dX2_setArea_39 : decode cX2_setArea 39 = .ok (.getfield 7, 3) := by decide +kernel
theorem dX2_setArea_42 : decode cX2_setArea 42 = .ok (.iload_n 1, 1) := by decide +kernel
theorem dX2_setArea_43 : decode cX2_setArea 43 = .ok (.iaload, 1) := by decide +kernel
theorem dX2_setArea_44 : decode cX2_setArea 44 = .ok (.istore_n 3, 1) := by decide +kernel
theorem dX2_setArea_45 : decode cX2_setArea 45 = .ok (.aload_n 0, 1) := by decide +kernel
theorem dX2_setArea_46 : decode cX2_setArea 46 = .ok (.getfield 7, 3) := by decide +kernel
theorem dX2_setArea_49 : decode cX2_setArea 49 = .ok (.iload_n 1, 1) := by decide +kernel
theorem dX2_setArea_50 : decode cX2_setArea 50 = .ok (.iload_n 2, 1) := by decide +kernel
theorem dX2_setArea_51 : decode cX2_setArea 51 = .ok (.iastore, 1) := by decide +kernel
theorem dX2_setArea_52 : decode cX2_setArea 52 = .ok (.iload_n 3, 1) := by decide +kernel
theorem dX2_setArea_53 : decode cX2_setArea 53 = .ok (.ireturn, 1) := by decide +kernel
set_option maxRecDepth 20000 in
theorem ggX2_setIndex_X2_isIn : GoodIn wsX2_setIndex wsX2_isIn := goodIn_r _ [5] (by decide +kernel) (by decide +kernel)
set_option maxRecDepth 20000 in
theorem gX2_setIndex_X2_isIn : GoodIn wsX2_setIndex (va_wsS RX2 62 yX2_isIn wsX2_isIn) := goodIn_app (goodIn_of _ (by decide +kernel)) ggX2_setIndex_X2_isIn
set_option maxRecDepth 20000 in
theorem ggX2_setIndex_X2_holds : GoodIn wsX2_setIndex wsX2_holds := goodIn_r _ [9, 10, 11, 12, 13, 14, 15, 16, 17, 18, 19, 20, 21, 22, 23, 24, 25, 26, 27] (by decide +kernel) (by decide +kernel)
set_option maxRecDepth 20000 in
theorem gX2_setIndex_X2_holds : GoodIn wsX2_setIndex (wsV RX2 66 RX2 yX2_holds wsX2_holds) := goodIn_app (goodIn_of _ (by decide +kernel)) ggX2_setIndex_X2_holds
theorem dX2_setIndex_0 : decode cX2_setIndex 0 = .ok (.aload_n 0, 1) := by decide +kernel
theorem dX2_setIndex_1 : decode cX2_setIndex 1 = .ok (.iload_n 1, 1) := by decide +kernel
theorem dX2_setIndex_2 : decode cX2_setIndex 2 = .ok (.iconst 0, 1) := by decide +kernel
theorem dX2_setIndex_3 : decode cX2_setIndex 3 = .ok (.sipush 239, 3) := by decide +kernel
theorem dX2_setIndex_6 : decode cX2_setIndex 6 = .ok (.invokestatic 62, 3) := by decide +kernel
theorem dX2_setIndex_9 : decode cX2_setIndex 9 = .ok (.ifCond .ne 7, 3) := by decide +kernel
theorem dX2_setIndex_12 : decode cX2_setIndex 12 = .ok (.iconst 1, 1) := by decide +kernel
theorem dX2_setIndex_13 : decode cX2_setIndex 13 = .ok (.goto 20, 3) := by decide +kernel
theorem dX2_setIndex_16 : decode cX2_setIndex 16 = .ok (.iload_n 2, 1) := by decide +kernel
theorem dX2_setIndex_17 : decode cX2_setIndex 17 = .ok (.bipush 10, 2) := by decide +kernel
theorem dX2_setIndex_19 : decode cX2_setIndex 19 = .ok (.sipush 999, 3) := by decide +kernel
theorem dX2_setIndex_22 : decode cX2_setIndex 22 = .ok (.invokestatic 62, 3) := by decide +kernel
theorem dX2_setIndex_25 : decode cX2_setIndex 25 = .ok (.ifCond .eq 7, 3) := by decide +kernel
theorem dX2_setIndex_28 : decode cX2_setIndex 28 = .ok (.iconst 0, 1) := by decide +kernel
theorem dX2_setIndex_29 : decode cX2_setIndex 29 = .ok (.goto 4, 3) := by decide +kernel
theorem dX2_setIndex_32 : decode cX2_setIndex 32 = .ok (.iconst 2, 1) := by decide +kernel
theorem dX2_setIndex_33 : decode cX2_setIndex 33 = .ok (.invokevirtual 66, 3) := by decide +kernel
theorem dX2_setIndex_36 : decode cX2_setIndex 36 = .ok (.ifCond .ne 5, 3) := by decide +kernel
theorem dX2_setIndex_39 : decode cX2_setIndex 39 = .ok (.iconst 0, 1) := by decide +kernel
theorem dX2_setIndex_40 : decode cX2_setIndex 40 = .ok (.ireturn, 1) := by decide +kernel
theorem dX2_setIndex_41 : decode cX2_setIndex 41 = .ok (.aload_n 0, 1) := by decide +kernel
theorem dX2_setIndex_42 : decode cX2_setIndex 42 = .ok (.getfield 13, 3) := by decide +kernel
theorem dX2_setIndex_45 : decode cX2_setIndex 45 = .ok (.iload_n 1, 1) := by decide +kernel
theorem dX2_setIndex_46 : decode cX2_setIndex 46 = .ok (.iaload, 1) := by decide +kernel
theorem dX2_setIndex_47 : decode cX2_setIndex 47 = .ok (.istore_n 3, 1) := by decide +kernel
theorem dX2_setIndex_48 : decode cX2_setIndex 48 = .ok (.aload_n 0, 1) := by decide +kernel
theorem dX2_setIndex_49 : decode cX2_setIndex 49 = .ok (.getfield 13, 3) := by decide +kernel
theorem dX2_setIndex_52 : decode cX2_setIndex 52 = .ok (.iload_n 1, 1) := by decide +kernel
theorem dX2_setIndex_53 : decode cX2_setIndex 53 = .ok (.iload_n 2, 1) := by decide +kernel
theorem dX2_setIndex_54 : decode cX2_setIndex 54 = .ok (.iastore, 1) := by decide +kernel
theorem dX2_setIndex_55 : decode cX2_setIndex 55 = .ok (.iload_n 3, 1) := by decide +kernel
theorem dX2_setIndex_56 : decode cX2_setIndex 56 = .ok (.ireturn, 1) := by decide +kernel
set_option maxRecDepth 20000 in
theorem ggX2_setCost_X2_isIn : GoodIn wsX2_setCost wsX2_isIn := goodIn_r _ [6] (by decide +kernel) (by decide +kernel)
set_option maxRecDepth 20000 in
theorem gX2_setCost_X2_isIn : GoodIn wsX2_setCost (va_wsS RX2 62 yX2_isIn wsX2_isIn) := goodIn_app (goodIn_of _ (by decide +kernel)) ggX2_setCost_X2_isIn
set_option maxRecDepth 20000 in
theorem ggX2_setCost_X2_holds : GoodIn wsX2_setCost wsX2_holds := goodIn_r _ [10, 11, 12, 13, 14, 15, 16, 17, 18, 19, 20, 21, 22, 23, 24, 25, 26, 27, 28] (by decide +kernel) (by decide +kernel)
set_option maxRecDepth 20000 in
theorem gX2_setCost_X2_holds : GoodIn wsX2_setCost (wsV RX2 66 RX2 yX2_holds wsX2_holds) := goodIn_app (goodIn_of _ (by decide +kernel)) ggX2_setCost_X2_holds
theorem dX2_setCost_0 : decode cX2_setCost 0 = .ok (.aload_n 0, 1) := by decide +kernel
theorem dX2_setCost_1 : decode cX2_setCost 1 = .ok (.iload_n 1, 1) := by decide +kernel
theorem dX2_setCost_2 : decode cX2_setCost 2 = .ok (.iconst 0, 1) := by decide +kernel
theorem dX2_setCost_3 : decode cX2_setCost 3 = .ok (.bipush 19, 2) := by decide +kernel
theorem dX2_setCost_5 : decode cX2_setCost 5 = .ok (.invokestatic 62, 3) := by decide +kernel
theorem dX2_setCost_8 : decode cX2_setCost 8 = .ok (.ifCond .ne 7, 3) := by decide +kernel
theorem dX2_setCost_11 : decode cX2_setCost 11 = .ok (.iconst 1, 1) := by decide +kernel
theorem dX2_setCost_12 : decode cX2_setCost 12 = .ok (.goto 18, 3) := by decide +kernel
theorem dX2_setCost_15 : decode cX2_setCost 15 = .ok (.iload_n 2, 1) := by decide +kernel
theorem dX2_setCost_16 : decode cX2_setCost 16 = .ok (.iconst 0, 1) := by decide +kernel
theorem dX2_setCost_17 : decode cX2_setCost 17 = .ok (.ldc 70, 2) := by decide +kernel
theorem dX2_setCost_19 : decode cX2_setCost 19 = .ok (.invokestatic 62, 3) := by decide +kernel
theorem dX2_setCost_22 : decode cX2_setCost 22 = .ok (.ifCond .eq 7, 3) := by decide +kernel
theorem dX2_setCost_25 : decode cX2_setCost 25 = .ok (.iconst 0, 1) := by decide +kernel
theorem dX2_setCost_26 : decode cX2_setCost 26 = .ok (.goto 4, 3) := by decide +kernel
theorem dX2_setCost_29 : decode cX2_setCost 29 = .ok (.iconst 2, 1) := by decide +kernel
theorem dX2_setCost_30 : decode cX2_setCost 30 = .ok (.invokevirtual 66, 3) := by decide +kernel
theorem dX2_setCost_33 : decode cX2_setCost 33 = .ok (.ifCond .ne 5, 3) := by decide +kernel
theorem dX2_setCost_36 : decode cX2_setCost 36 = .ok (.iconst 0, 1) := by decide +kernel
theorem dX2_setCost_37 : decode cX2_setCost 37 = .ok (.ireturn, 1) := by decide +kernel
theorem dX2_setCost_38 : decode cX2_setCost 38 = .ok (.aload_n 0, 1) := by decide +kernel
theorem dX2_setCost_39 : decode cX2_setCost 39 = .ok (.getfield 16, 3) := by decide +kernel
theorem dX2_setCost_42 : decode cX2_setCost 42 = .ok (.iload_n 1, 1) := by decide +kernel
theorem dX2_setCost_43 : decode cX2_setCost 43 = .ok (.iaload, 1) := by decide +kernel
theorem dX2_setCost_44 : decode cX2_setCost 44 = .ok (.istore_n 3, 1) := by decide +kernel
theorem dX2_setCost_45 : decode cX2_setCost 45 = .ok (.aload_n 0, 1) := by decide +kernel
theorem dX2_setCost_46 : decode cX2_setCost 46 = .ok (.getfield 16, 3) := by decide +kernel
theorem dX2_setCost_49 : decode cX2_setCost 49 = .ok (.iload_n 1, 1) := by decide +kernel
theorem dX2_setCost_50 : decode cX2_setCost 50 = .ok (.iload_n 2, 1) := by decide +kernel
theorem dX2_setCost_51 : decode cX2_setCost 51 = .ok (.iastore, 1) := by decide +kernel
theorem dX2_setCost_52 : decode cX2_setCost 52 = .ok (.iload_n 3, 1) := by decide +kernel
theorem dX2_setCost_53 : decode cX2_setCost 53 = .ok (.ireturn, 1) := by decide +kernel
theorem dX2_isLet_0 : decode cX2_isLet 0 = .ok (.iconst 0, 1) := by decide +kernel
theorem dX2_isLet_1 : decode cX2_isLet 1 = .ok (.istore 4, 2) := by decide +kernel
theorem dX2_isLet_3 : decode cX2_isLet 3 = .ok (.iconst 0, 1) := by decide +kernel
theorem dX2_isLet_4 : decode cX2_isLet 4 = .ok (.istore 5, 2) := by decide +kernel
theorem dX2_isLet_6 : decode cX2_isLet 6 = .ok (.iload 5, 2) := by decide +kernel
theorem dX2_isLet_8 : decode cX2_isLet 8 = .ok (.aload_n 0, 1) := by decide +kernel
theorem dX2_isLet_9 : decode cX2_isLet 9 = .ok (.getfield 59, 3) := by decide +kernel
theorem dX2_isLet_12 : decode cX2_isLet 12 = .ok (.if_icmp .ge 54, 3) := by decide +kernel
theorem dX2_isLet_15 : decode cX2_isLet 15 = .ok (.iload 4, 2) := by decide +kernel
theorem dX2_isLet_17 : decode cX2_isLet 17 = .ok (.ifCond .ne 36, 3) := by decide +kernel
theorem dX2_isLet_20 : decode cX2_isLet 20 = .ok (.aload_n 0, 1) := by decide +kernel
theorem dX2_isLet_21 : decode cX2_isLet 21 = .ok (.getfield 19, 3) := by decide +kernel
theorem dX2_isLet_24 : decode cX2_isLet 24 = .ok (.iload 5, 2) := by decide +kernel
theorem dX2_isLet_26 : decode cX2_isLet 26 = .ok (.iaload, 1) := by decide +kernel
theorem dX2_isLet_27 : decode cX2_isLet 27 = .ok (.iload_n 1, 1) := by decide +kernel
theorem dX2_isLet_28 : decode cX2_isLet 28 = .ok (.if_icmp .ne 29, 3) := by decide +kernel
theorem dX2_isLet_31 : decode cX2_isLet 31 = .ok (.aload_n 0, 1) := by decide +kernel
theorem dX2_isLet_32 : decode cX2_isLet 32 = .ok (.getfield 22, 3) := by decide +kernel
theorem dX2_isLet_35 : decode cX2_isLet 35 = .ok (.iload 5, 2) := by decide +kernel
theorem dX2_isLet_37 : decode cX2_isLet 37 = .ok (.iaload, 1) := by decide +kernel
theorem dX2_isLet_38 : decode cX2_isLet 38 = .ok (.iload_n 3, 1) := by decide +kernel
theorem dX2_isLet_39 : decode cX2_isLet 39 = .ok (.if_icmp .ge 18, 3) := by decide +kernel
theorem dX2_isLet_42 : decode cX2_isLet 42 = .ok (.iload_n 2, 1) := by decide +kernel
theorem dX2_isLet_43 : decode cX2_isLet 43 = .ok (.aload_n 0, 1) := by decide +kernel
theorem dX2_isLet_44 : decode cX2_isLet 44 = .ok (.getfield 25, 3) := by decide +kernel
theorem dX2_isLet_47 : decode cX2_isLet 47 = .ok (.iload 5, 2) := by decide +kernel
theorem dX2_isLet_49 : decode cX2_isLet 49 = .ok (.iaload, 1) := by decide +kernel
theorem dX2_isLet_50 : decode cX2_isLet 50 = .ok (.if_icmp .ge 7, 3) := by decide +kernel
theorem dX2_isLet_53 : decode cX2_isLet 53 = .ok (.iconst 1, 1) := by decide +kernel
theorem dX2_isLet_54 : decode cX2_isLet 54 = .ok (.goto 4, 3) := by decide +kernel
theorem dX2_isLet_57 : decode cX2_isLet 57 = .ok (.iconst 0, 1) := by decide +kernel
theorem dX2_isLet_58 : decode cX2_isLet 58 = .ok (.istore 4, 2) := by decide +kernel
theorem dX2_isLet_60 : decode cX2_isLet 60 = .ok (.iinc 5 1, 3) := by decide +kernel
theorem dX2_isLet_63 : decode cX2_isLet 63 = .ok (.goto (-57), 3) := by decide +kernel
theorem dX2_isLet_66 : decode cX2_isLet 66 = .ok (.iload 4, 2) := by decide +kernel
theorem dX2_isLet_68 : decode cX2_isLet 68 = .ok (.ireturn, 1) := by decide +kernel
set_option maxRecDepth 20000 in
theorem ggX2_let_X2_isIn : GoodIn wsX2_let wsX2_isIn := goodIn_r _ [11] (by decide +kernel) (by decide +kernel)
set_option maxRecDepth 20000 in
theorem gX2_let_X2_isIn : GoodIn wsX2_let (va_wsS RX2 62 yX2_isIn wsX2_isIn) := goodIn_app (goodIn_of _ (by decide +kernel)) ggX2_let_X2_isIn
set_option maxRecDepth 20000 in
theorem ggX2_let_X2_isLet : GoodIn wsX2_let wsX2_isLet := goodIn_r _ [15, 2, 3, 4, 5, 21, 22, 23, 24, 25, 26, 27, 28, 29, 30, 31, 32, 33, 34, 35, 36, 37] (by decide +kernel) (by decide +kernel)
set_option maxRecDepth 20000 in
theorem gX2_let_X2_isLet : GoodIn wsX2_let (wsV RX2 72 RX2 yX2_isLet wsX2_isLet) := goodIn_app (goodIn_of _ (by decide +kernel)) ggX2_let_X2_isLet
set_option maxRecDepth 20000 in
theorem ggX2_let_X2_holds : GoodIn wsX2_let wsX2_holds := goodIn_r _ [19, 20, 21, 22, 23, 24, 25, 26, 27, 28, 29, 30, 31, 32, 33, 34, 35, 36, 37] (by decide +kernel) (by decide +kernel)
set_option maxRecDepth 20000 in
theorem gX2_let_X2_holds : GoodIn wsX2_let (wsV RX2 66 RX2 yX2_holds wsX2_holds) := goodIn_app (goodIn_of _ (by decide +kernel)) ggX2_let_X2_holds
theorem dX2_let_0 : decode cX2_let 0 = .ok (.iload_n 1, 1) := by decide +kernel
theorem dX2_let_1 : decode cX2_let 1 = .ok (.iconst 0, 1) := by decide +kernel
theorem dX2_let_2 : decode cX2_let 2 = .ok (.iconst 5, 1) := by decide +kernel
theorem dX2_let_3 : decode cX2_let 3 = .ok (.invokestatic 62, 3) := by decide +kernel
theorem dX2_let_6 : decode cX2_let 6 = .ok (.istore 5, 2) := by decide +kernel
theorem dX2_let_8 : decode cX2_let 8 = .ok (.iload_n 2, 1) := by decide +kernel
theorem dX2_let_9 : decode cX2_let 9 = .ok (.iconst 0, 1) := by decide +kernel
theorem dX2_let_10 : decode cX2_let 10 = .ok (.sipush 7199, 3) := by decide +kernel
theorem dX2_let_13 : decode cX2_let 13 = .ok (.invokestatic 62, 3) := by decide +kernel
theorem dX2_let_16 : decode cX2_let 16 = .ok (.ifCond .eq 30, 3) := by decide +kernel
theorem dX2_let_19 : decode cX2_let 19 = .ok (.iload_n 3, 1) := by decide +kernel
theorem dX2_let_20 : decode cX2_let 20 = .ok (.iload_n 2, 1) := by decide +kernel
theorem dX2_let_21 : decode cX2_let 21 = .ok (.if_icmp .le 25, 3) := by decide +kernel
theorem dX2_let_24 : decode cX2_let 24 = .ok (.iload_n 3, 1) := by decide +kernel
theorem dX2_let_25 : decode cX2_let 25 = .ok (.sipush 7200, 3) := by decide +kernel
theorem dX2_let_28 : decode cX2_let 28 = .ok (.if_icmp .gt 18, 3) := by decide +kernel
theorem dX2_let_31 : decode cX2_let 31 = .ok (.iload 4, 2) := by decide +kernel
theorem dX2_let_33 : decode cX2_let 33 = .ok (.iconst 1, 1) := by decide +kernel
theorem dX2_let_34 : decode cX2_let 34 = .ok (.ldc 71, 2) := by decide +kernel
theorem dX2_let_36 : decode cX2_let 36 = .ok (.invokestatic 62, 3) := by decide +kernel
theorem dX2_let_39 : decode cX2_let 39 = .ok (.ifCond .eq 7, 3) := by decide +kernel
theorem dX2_let_42 : decode cX2_let 42 = .ok (.iconst 1, 1) := by decide +kernel
theorem dX2_let_43 : decode cX2_let 43 = .ok (.goto 4, 3) := by decide +kernel
theorem dX2_let_46 : decode cX2_let 46 = .ok (.iconst 0, 1) := by decide +kernel
theorem dX2_let_47 : decode cX2_let 47 = .ok (.istore 6, 2) := by decide +kernel
theorem dX2_let_49 : decode cX2_let 49 = .ok (.aload_n 0, 1) := by decide +kernel
theorem dX2_let_50 : decode cX2_let 50 = .ok (.iload 5, 2) := by decide +kernel
theorem dX2_let_52 : decode cX2_let 52 = .ok (.ifCond .ne 7, 3) := by decide +kernel
theorem dX2_let_55 : decode cX2_let 55 = .ok (.iconst 1, 1) := by decide +kernel
theorem dX2_let_56 : decode cX2_let 56 = .ok (.goto 36, 3) := by decide +kernel
theorem dX2_let_59 : decode cX2_let 59 = .ok (.iload 6, 2) := by decide +kernel
theorem dX2_let_61 : decode cX2_let 61 = .ok (.ifCond .ne 7, 3) := by decide +kernel
theorem dX2_let_64 : decode cX2_let 64 = .ok (.iconst 2, 1) := by decide +kernel
theorem dX2_let_65 : decode cX2_let 65 = .ok (.goto 27, 3) := by decide +kernel
theorem dX2_let_68 : decode cX2_let 68 = .ok (.aload_n 0, 1) := by decide +kernel
theorem dX2_let_69 : decode cX2_let 69 = .ok (.getfield 59, 3) := by decide +kernel
theorem dX2_let_72 : decode cX2_let 72 = .ok (.bipush 24, 2) := by decide +kernel
theorem dX2_let_74 : decode cX2_let 74 = .ok (.if_icmp .eq 13, 3) := by decide +kernel
theorem dX2_let_77 : decode cX2_let 77 = .ok (.aload_n 0, 1) := by decide +kernel
theorem dX2_let_78 : decode cX2_let 78 = .ok (.iload_n 1, 1) := by decide +kernel
theorem dX2_let_79 : decode cX2_let 79 = .ok (.iload_n 2, 1) := by decide +kernel
theorem dX2_let_80 : decode cX2_let 80 = .ok (.iload_n 3, 1) := by decide +kernel
theorem dX2_let_81 : decode cX2_let 81 = .ok (.invokevirtual 72, 3) := by decide +kernel
theorem dX2_let_84 : decode cX2_let 84 = .ok (.ifCond .eq 7, 3) := by decide +kernel
theorem dX2_let_87 : decode cX2_let 87 = .ok (.iconst 3, 1) := by decide +kernel
theorem dX2_let_88 : decode cX2_let 88 = .ok (.goto 4, 3) := by decide +kernel
theorem dX2_let_91 : decode cX2_let 91 = .ok (.iconst 0, 1) := by decide +kernel
theorem dX2_let_92 : decode cX2_let 92 = .ok (.invokevirtual 66, 3) := by decide +kernel
theorem dX2_let_95 : decode cX2_let 95 = .ok (.ifCond .ne 5, 3) := by decide +kernel
theorem dX2_let_98 : decode cX2_let 98 = .ok (.iconst 0, 1) := by decide +kernel
theorem dX2_let_99 : decode cX2_let 99 = .ok (.ireturn, 1) := by decide +kernel
theorem dX2_let_100 : decode cX2_let 100 = .ok (.aload_n 0, 1) := by decide +kernel
theorem dX2_let_101 : decode cX2_let 101 = .ok (.getfield 19, 3) := by decide +kernel
theorem dX2_let_104 : decode cX2_let 104 = .ok (.aload_n 0, 1) := by decide +kernel
theorem dX2_let_105 : decode cX2_let 105 = .ok (.getfield 59, 3) := by decide +kernel
theorem dX2_let_108 : decode cX2_let 108 = .ok (.iload_n 1, 1) := by decide +kernel
theorem dX2_let_109 : decode cX2_let 109 = .ok (.iastore, 1) := by decide +kernel
theorem dX2_let_110 : decode cX2_let 110 = .ok (.aload_n 0, 1) := by decide +kernel
theorem dX2_let_111 : decode cX2_let 111 = .ok (.getfield 22, 3) := by decide +kernel
theorem dX2_let_114 : decode cX2_let 114 = .ok (.aload_n 0, 1) := by decide +kernel
theorem dX2_let_115 : decode cX2_let 115 = .ok (.getfield 59, 3) := by decide +kernel
theorem dX2_let_118 : decode cX2_let 118 = .ok (.iload_n 2, 1) := by decide +kernel
theorem dX2_let_119 : decode cX2_let 119 = .ok (.iastore, 1) := by decide +kernel
theorem dX2_let_120 : decode cX2_let 120 = .ok (.aload_n 0, 1) := by decide +kernel
theorem dX2_let_121 : decode cX2_let 121 = .ok (.getfield 25, 3) := by decide +kernel
theorem dX2_let_124 : decode cX2_let 124 = .ok (.aload_n 0, 1) := by decide +kernel
theorem dX2_let_125 : decode cX2_let 125 = .ok (.getfield 59, 3) := by decide +kernel
theorem dX2_let_128 : decode cX2_let 128 = .ok (.iload_n 3, 1) := by decide +kernel
theorem dX2_let_129 : decode cX2_let 129 = .ok (.iastore, 1) := by decide +kernel
theorem dX2_let_130 : decode cX2_let 130 = .ok (.aload_n 0, 1) := by decide +kernel
theorem dX2_let_131 : decode cX2_let 131 = .ok (.getfield 28, 3) := by decide +kernel
theorem dX2_let_134 : decode cX2_let 134 = .ok (.aload_n 0, 1) := by decide +kernel
theorem dX2_let_135 : decode cX2_let 135 = .ok (.getfield 59, 3) := by decide +kernel
theorem dX2_let_138 : decode cX2_let 138 = .ok (.iload 4, 2) := by decide +kernel
theorem dX2_let_140 : decode cX2_let 140 = .ok (.iastore, 1) := by decide +kernel
theorem dX2_let_141 : decode cX2_let 141 = .ok (.aload_n 0, 1) := by decide +kernel
theorem dX2_let_142 : decode cX2_let 142 = .ok (.getfield 37, 3) := by decide +kernel
theorem dX2_let_145 : decode cX2_let 145 = .ok (.aload_n 0, 1) := by decide +kernel
theorem dX2_let_146 : decode cX2_let 146 = .ok (.getfield 59, 3) := by decide +kernel
theorem dX2_let_149 : decode cX2_let 149 = .ok (.iconst (-1), 1) := by decide +kernel
theorem dX2_let_150 : decode cX2_let 150 = .ok (.iastore, 1) := by decide +kernel
theorem dX2_let_151 : decode cX2_let 151 = .ok (.aload_n 0, 1) := by decide +kernel
theorem dX2_let_152 : decode cX2_let 152 = .ok (.dup, 1) := by decide +kernel
theorem dX2_let_153 : decode cX2_let 153 = .ok (.getfield 59, 3) := by decide +kernel
theorem dX2_let_156 : decode cX2_let 156 = .ok (.iconst 1, 1) := by decide +kernel
theorem dX2_let_157 : decode cX2_let 157 = .ok (.iadd, 1) := by decide +kernel
theorem dX2_let_158 : decode cX2_let 158 = .ok (.putfield 59, 3) := by decide +kernel
theorem dX2_let_161 : decode cX2_let 161 = .ok (.aload_n 0, 1) := by decide +kernel
theorem dX2_let_162 : decode cX2_let 162 = .ok (.getfield 59, 3) := by decide +kernel
theorem dX2_let_165 : decode cX2_let 165 = .ok (.iconst 1, 1) := by decide +kernel
theorem dX2_let_166 : decode cX2_let 166 = .ok (.isub, 1) := by decide +kernel
theorem dX2_let_167 : decode cX2_let 167 = .ok (.ireturn, 1) := by decide +kernel
set_option maxRecDepth 20000 in
theorem ggX2_end_X2_isLease : GoodIn wsX2_end wsX2_isLease := goodIn_r _ [7, 8, 9, 10, 6, 11, 17, 18, 19, 20, 21, 22, 23, 24, 25, 26, 27, 28, 29, 30, 31, 32, 33] (by decide +kernel) (by decide +kernel)
set_option maxRecDepth 20000 in
theorem gX2_end_X2_isLease : GoodIn wsX2_end (wsV RX2 75 RX2 yX2_isLease wsX2_isLease) := goodIn_app (goodIn_of _ (by decide +kernel)) ggX2_end_X2_isLease
set_option maxRecDepth 20000 in
theorem ggX2_end_X2_holds : GoodIn wsX2_end wsX2_holds := goodIn_r _ [15, 16, 17, 18, 19, 20, 21, 22, 23, 24, 25, 26, 27, 28, 29, 30, 31, 32, 33] (by decide +kernel) (by decide +kernel)
set_option maxRecDepth 20000 in
theorem gX2_end_X2_holds : GoodIn wsX2_end (wsV RX2 66 RX2 yX2_holds wsX2_holds) := goodIn_app (goodIn_of _ (by decide +kernel)) ggX2_end_X2_holds
theorem dX2_end_0 : decode cX2_end 0 = .ok (.aload_n 0, 1) := by decide +kernel
theorem dX2_end_1 : decode cX2_end 1 = .ok (.iload_n 1, 1) := by decide +kernel
theorem dX2_end_2 : decode cX2_end 2 = .ok (.invokevirtual 75, 3) := by decide +kernel
theorem dX2_end_5 : decode cX2_end 5 = .ok (.istore_n 3, 1) := by decide +kernel
theorem dX2_end_6 : decode cX2_end 6 = .ok (.aload_n 0, 1) := by decide +kernel
theorem dX2_end_7 : decode cX2_end 7 = .ok (.iload_n 3, 1) := by decide +kernel
theorem dX2_end_8 : decode cX2_end 8 = .ok (.ifCond .ne 7, 3) := by decide +kernel
theorem dX2_end_11 : decode cX2_end 11 = .ok (.iconst 1, 1) := by decide +kernel
theorem dX2_end_12 : decode cX2_end 12 = .ok (.goto 28, 3) := by decide +kernel
theorem dX2_end_15 : decode cX2_end 15 = .ok (.iload_n 2, 1) := by decide +kernel
theorem dX2_end_16 : decode cX2_end 16 = .ok (.aload_n 0, 1) := by decide +kernel
theorem dX2_end_17 : decode cX2_end 17 = .ok (.getfield 22, 3) := by decide +kernel
theorem dX2_end_20 : decode cX2_end 20 = .ok (.iload_n 1, 1) := by decide +kernel
theorem dX2_end_21 : decode cX2_end 21 = .ok (.iaload, 1) := by decide +kernel
theorem dX2_end_22 : decode cX2_end 22 = .ok (.if_icmp .le 17, 3) := by decide +kernel
theorem dX2_end_25 : decode cX2_end 25 = .ok (.iload_n 2, 1) := by decide +kernel
theorem dX2_end_26 : decode cX2_end 26 = .ok (.aload_n 0, 1) := by decide +kernel
theorem dX2_end_27 : decode cX2_end 27 = .ok (.getfield 25, 3) := by decide +kernel
theorem dX2_end_30 : decode cX2_end 30 = .ok (.iload_n 1, 1) := by decide +kernel
theorem dX2_end_31 : decode cX2_end 31 = .ok (.iaload, 1) := by decide +kernel
theorem dX2_end_32 : decode cX2_end 32 = .ok (.if_icmp .ge 7, 3) := by decide +kernel
theorem dX2_end_35 : decode cX2_end 35 = .ok (.iconst 0, 1) := by decide +kernel
theorem dX2_end_36 : decode cX2_end 36 = .ok (.goto 4, 3) := by decide +kernel
theorem dX2_end_39 : decode cX2_end 39 = .ok (.iconst 2, 1) := by decide +kernel
theorem dX2_end_40 : decode cX2_end 40 = .ok (.invokevirtual 66, 3) := by decide +kernel
theorem dX2_end_43 : decode cX2_end 43 = .ok (.ifCond .ne 5, 3) := by decide +kernel
theorem dX2_end_46 : decode cX2_end 46 = .ok (.iconst 0, 1) := by decide +kernel
theorem dX2_end_47 : decode cX2_end 47 = .ok (.ireturn, 1) := by decide +kernel
theorem dX2_end_48 : decode cX2_end 48 = .ok (.aload_n 0, 1) := by decide +kernel
theorem dX2_end_49 : decode cX2_end 49 = .ok (.getfield 25, 3) := by decide +kernel
theorem dX2_end_52 : decode cX2_end 52 = .ok (.iload_n 1, 1) := by decide +kernel
theorem dX2_end_53 : decode cX2_end 53 = .ok (.iaload, 1) := by decide +kernel
theorem dX2_end_54 : decode cX2_end 54 = .ok (.istore 4, 2) := by decide +kernel
theorem dX2_end_56 : decode cX2_end 56 = .ok (.aload_n 0, 1) := by decide +kernel
theorem dX2_end_57 : decode cX2_end 57 = .ok (.getfield 25, 3) := by decide +kernel
theorem dX2_end_60 : decode cX2_end 60 = .ok (.iload_n 1, 1) := by decide +kernel
theorem dX2_end_61 : decode cX2_end 61 = .ok (.iload_n 2, 1) := by decide +kernel
theorem dX2_end_62 : decode cX2_end 62 = .ok (.iastore, 1) := by decide +kernel
theorem dX2_end_63 : decode cX2_end 63 = .ok (.iload 4, 2) := by decide +kernel
theorem dX2_end_65 : decode cX2_end 65 = .ok (.ireturn, 1) := by decide +kernel
theorem dX2_placeOf_0 : decode cX2_placeOf 0 = .ok (.iconst 0, 1) := by decide +kernel
theorem dX2_placeOf_1 : decode cX2_placeOf 1 = .ok (.istore_n 3, 1) := by decide +kernel
theorem dX2_placeOf_2 : decode cX2_placeOf 2 = .ok (.iload_n 3, 1) := by decide +kernel
theorem dX2_placeOf_3 : decode cX2_placeOf 3 = .ok (.aload_n 0, 1) := by decide +kernel
theorem dX2_placeOf_4 : decode cX2_placeOf 4 = .ok (.getfield 46, 3) := by decide +kernel
theorem dX2_placeOf_7 : decode cX2_placeOf 7 = .ok (.iload_n 1, 1) := by decide +kernel
theorem dX2_placeOf_8 : decode cX2_placeOf 8 = .ok (.iaload, 1) := by decide +kernel
theorem dX2_placeOf_9 : decode cX2_placeOf 9 = .ok (.if_icmp .ge 24, 3) := by decide +kernel
theorem dX2_placeOf_12 : decode cX2_placeOf 12 = .ok (.aload_n 0, 1) := by decide +kernel
theorem dX2_placeOf_13 : decode cX2_placeOf 13 = .ok (.getfield 49, 3) := by decide +kernel
theorem dX2_placeOf_16 : decode cX2_placeOf 16 = .ok (.bipush 6, 2) := by decide +kernel
theorem dX2_placeOf_18 : decode cX2_placeOf 18 = .ok (.iload_n 1, 1) := by decide +kernel
theorem dX2_placeOf_19 : decode cX2_placeOf 19 = .ok (.imul, 1) := by decide +kernel
theorem dX2_placeOf_20 : decode cX2_placeOf 20 = .ok (.iload_n 3, 1) := by decide +kernel
theorem dX2_placeOf_21 : decode cX2_placeOf 21 = .ok (.iadd, 1) := by decide +kernel
theorem dX2_placeOf_22 : decode cX2_placeOf 22 = .ok (.iaload, 1) := by decide +kernel
theorem dX2_placeOf_23 : decode cX2_placeOf 23 = .ok (.iload_n 2, 1) := by decide +kernel
theorem dX2_placeOf_24 : decode cX2_placeOf 24 = .ok (.if_icmp .eq 9, 3) := by decide +kernel
theorem dX2_placeOf_27 : decode cX2_placeOf 27 = .ok (.iinc 3 1, 3) := by decide +kernel
theorem dX2_placeOf_30 : decode cX2_placeOf 30 = .ok (.goto (-28), 3) := by decide +kernel
theorem dX2_placeOf_33 : decode cX2_placeOf 33 = .ok (.iload_n 3, 1) := by decide +kernel
theorem dX2_placeOf_34 : decode cX2_placeOf 34 = .ok (.ireturn, 1) := by decide +kernel
set_option maxRecDepth 20000 in
theorem ggX2_step_X2_isLease : GoodIn wsX2_step wsX2_isLease := goodIn_r _ [11, 12, 13, 14, 10, 15, 25, 26, 27, 28, 29, 30, 31, 32, 33, 34, 35, 36, 37, 38, 39, 40, 41] (by decide +kernel) (by decide +kernel)
set_option maxRecDepth 20000 in
theorem gX2_step_X2_isLease : GoodIn wsX2_step (wsV RX2 75 RX2 yX2_isLease wsX2_isLease) := goodIn_app (goodIn_of _ (by decide +kernel)) ggX2_step_X2_isLease
set_option maxRecDepth 20000 in
theorem ggX2_step_X2_isIn : GoodIn wsX2_step wsX2_isIn := goodIn_r _ [15] (by decide +kernel) (by decide +kernel)
set_option maxRecDepth 20000 in
theorem gX2_step_X2_isIn : GoodIn wsX2_step (va_wsS RX2 62 yX2_isIn wsX2_isIn) := goodIn_app (goodIn_of _ (by decide +kernel)) ggX2_step_X2_isIn
set_option maxRecDepth 20000 in
theorem ggX2_step_X2_placeOf : GoodIn wsX2_step wsX2_placeOf := goodIn_r _ [19, 6, 4, 25, 26, 27, 28, 29, 30, 31, 32, 33, 34, 35, 36, 37, 38, 39, 40, 41] (by decide +kernel) (by decide +kernel)
set_option maxRecDepth 20000 in
theorem gX2_step_X2_placeOf : GoodIn wsX2_step (wsV RX2 78 RX2 yX2_placeOf wsX2_placeOf) := goodIn_app (goodIn_of _ (by decide +kernel)) ggX2_step_X2_placeOf
set_option maxRecDepth 20000 in
theorem ggX2_step_X2_holds : GoodIn wsX2_step wsX2_holds := goodIn_r _ [23, 24, 25, 26, 27, 28, 29, 30, 31, 32, 33, 34, 35, 36, 37, 38, 39, 40, 41] (by decide +kernel) (by decide +kernel)
set_option maxRecDepth 20000 in
theorem gX2_step_X2_holds : GoodIn wsX2_step (wsV RX2 66 RX2 yX2_holds wsX2_holds) := goodIn_app (goodIn_of _ (by decide +kernel)) ggX2_step_X2_holds
theorem dX2_step_0 : decode cX2_step 0 = .ok (.aload_n 0, 1) := by decide +kernel
theorem dX2_step_1 : decode cX2_step 1 = .ok (.iload_n 1, 1) := by decide +kernel
theorem dX2_step_2 : decode cX2_step 2 = .ok (.invokevirtual 75, 3) := by decide +kernel
theorem dX2_step_5 : decode cX2_step 5 = .ok (.istore 4, 2) := by decide +kernel
theorem dX2_step_7 : decode cX2_step 7 = .ok (.iload 4, 2) := by decide +kernel
theorem dX2_step_9 : decode cX2_step 9 = .ok (.ifCond .eq 37, 3) := by decide +kernel
theorem dX2_step_12 : decode cX2_step 12 = .ok (.iload_n 2, 1) := by decide +kernel
theorem dX2_step_13 : decode cX2_step 13 = .ok (.aload_n 0, 1) := by decide +kernel
theorem dX2_step_14 : decode cX2_step 14 = .ok (.getfield 22, 3) := by decide +kernel
theorem dX2_step_17 : decode cX2_step 17 = .ok (.iload_n 1, 1) := by decide +kernel
theorem dX2_step_18 : decode cX2_step 18 = .ok (.iaload, 1) := by decide +kernel
theorem dX2_step_19 : decode cX2_step 19 = .ok (.if_icmp .le 27, 3) := by decide +kernel
theorem dX2_step_22 : decode cX2_step 22 = .ok (.iload_n 2, 1) := by decide +kernel
theorem dX2_step_23 : decode cX2_step 23 = .ok (.aload_n 0, 1) := by decide +kernel
theorem dX2_step_24 : decode cX2_step 24 = .ok (.getfield 25, 3) := by decide +kernel
theorem dX2_step_27 : decode cX2_step 27 = .ok (.iload_n 1, 1) := by decide +kernel
theorem dX2_step_28 : decode cX2_step 28 = .ok (.iaload, 1) := by decide +kernel
theorem dX2_step_29 : decode cX2_step 29 = .ok (.if_icmp .ge 17, 3) := by decide +kernel
theorem dX2_step_32 : decode cX2_step 32 = .ok (.iload_n 3, 1) := by decide +kernel
theorem dX2_step_33 : decode cX2_step 33 = .ok (.iconst 1, 1) := by decide +kernel
theorem dX2_step_34 : decode cX2_step 34 = .ok (.ldc 71, 2) := by decide +kernel
theorem dX2_step_36 : decode cX2_step 36 = .ok (.invokestatic 62, 3) := by decide +kernel
theorem dX2_step_39 : decode cX2_step 39 = .ok (.ifCond .eq 7, 3) := by decide +kernel
theorem dX2_step_42 : decode cX2_step 42 = .ok (.iconst 1, 1) := by decide +kernel
theorem dX2_step_43 : decode cX2_step 43 = .ok (.goto 4, 3) := by decide +kernel
theorem dX2_step_46 : decode cX2_step 46 = .ok (.iconst 0, 1) := by decide +kernel
theorem dX2_step_47 : decode cX2_step 47 = .ok (.istore 5, 2) := by decide +kernel
theorem dX2_step_49 : decode cX2_step 49 = .ok (.aload_n 0, 1) := by decide +kernel
theorem dX2_step_50 : decode cX2_step 50 = .ok (.iload 4, 2) := by decide +kernel
theorem dX2_step_52 : decode cX2_step 52 = .ok (.ifCond .ne 7, 3) := by decide +kernel
theorem dX2_step_55 : decode cX2_step 55 = .ok (.iconst 1, 1) := by decide +kernel
theorem dX2_step_56 : decode cX2_step 56 = .ok (.goto 28, 3) := by decide +kernel
theorem dX2_step_59 : decode cX2_step 59 = .ok (.iload 5, 2) := by decide +kernel
theorem dX2_step_61 : decode cX2_step 61 = .ok (.ifCond .ne 7, 3) := by decide +kernel
theorem dX2_step_64 : decode cX2_step 64 = .ok (.iconst 2, 1) := by decide +kernel
theorem dX2_step_65 : decode cX2_step 65 = .ok (.goto 19, 3) := by decide +kernel
theorem dX2_step_68 : decode cX2_step 68 = .ok (.aload_n 0, 1) := by decide +kernel
theorem dX2_step_69 : decode cX2_step 69 = .ok (.iload_n 1, 1) := by decide +kernel
theorem dX2_step_70 : decode cX2_step 70 = .ok (.iload_n 2, 1) := by decide +kernel
theorem dX2_step_71 : decode cX2_step 71 = .ok (.invokevirtual 78, 3) := by decide +kernel
theorem dX2_step_74 : decode cX2_step 74 = .ok (.bipush 6, 2) := by decide +kernel
theorem dX2_step_76 : decode cX2_step 76 = .ok (.if_icmp .ne 7, 3) := by decide +kernel
theorem dX2_step_79 : decode cX2_step 79 = .ok (.iconst 3, 1) := by decide +kernel
theorem dX2_step_80 : decode cX2_step 80 = .ok (.goto 4, 3) := by decide +kernel
theorem dX2_step_83 : decode cX2_step 83 = .ok (.iconst 0, 1) := by decide +kernel
theorem dX2_step_84 : decode cX2_step 84 = .ok (.invokevirtual 66, 3) := by decide +kernel
theorem dX2_step_87 : decode cX2_step 87 = .ok (.ifCond .ne 5, 3) := by decide +kernel
theorem dX2_step_90 : decode cX2_step 90 = .ok (.iconst 0, 1) := by decide +kernel
theorem dX2_step_91 : decode cX2_step 91 = .ok (.ireturn, 1) := by decide +kernel
theorem dX2_step_92 : decode cX2_step 92 = .ok (.aload_n 0, 1) := by decide +kernel
theorem dX2_step_93 : decode cX2_step 93 = .ok (.iload_n 1, 1) := by decide +kernel
theorem dX2_step_94 : decode cX2_step 94 = .ok (.iload_n 2, 1) := by decide +kernel
theorem dX2_step_95 : decode cX2_step 95 = .ok (.invokevirtual 78, 3) := by decide +kernel
theorem dX2_step_98 : decode cX2_step 98 = .ok (.istore 6, 2) := by decide +kernel
theorem dX2_step_100 : decode cX2_step 100 = .ok (.aload_n 0, 1) := by decide +kernel
theorem dX2_step_101 : decode cX2_step 101 = .ok (.getfield 49, 3) := by decide +kernel
theorem dX2_step_104 : decode cX2_step 104 = .ok (.bipush 6, 2) := by decide +kernel
theorem dX2_step_106 : decode cX2_step 106 = .ok (.iload_n 1, 1) := by decide +kernel
theorem dX2_step_107 : decode cX2_step 107 = .ok (.imul, 1) := by decide +kernel
theorem dX2_step_108 : decode cX2_step 108 = .ok (.iload 6, 2) := by decide +kernel
theorem dX2_step_110 : decode cX2_step 110 = .ok (.iadd, 1) := by decide +kernel
theorem dX2_step_111 : decode cX2_step 111 = .ok (.iload_n 2, 1) := by decide +kernel
theorem dX2_step_112 : decode cX2_step 112 = .ok (.iastore, 1) := by decide +kernel
theorem dX2_step_113 : decode cX2_step 113 = .ok (.aload_n 0, 1) := by decide +kernel
theorem dX2_step_114 : decode cX2_step 114 = .ok (.getfield 52, 3) := by decide +kernel
theorem dX2_step_117 : decode cX2_step 117 = .ok (.bipush 6, 2) := by decide +kernel
theorem dX2_step_119 : decode cX2_step 119 = .ok (.iload_n 1, 1) := by decide +kernel
theorem dX2_step_120 : decode cX2_step 120 = .ok (.imul, 1) := by decide +kernel
theorem dX2_step_121 : decode cX2_step 121 = .ok (.iload 6, 2) := by decide +kernel
theorem dX2_step_123 : decode cX2_step 123 = .ok (.iadd, 1) := by decide +kernel
theorem dX2_step_124 : decode cX2_step 124 = .ok (.iload_n 3, 1) := by decide +kernel
theorem dX2_step_125 : decode cX2_step 125 = .ok (.iastore, 1) := by decide +kernel
theorem dX2_step_126 : decode cX2_step 126 = .ok (.aload_n 0, 1) := by decide +kernel
theorem dX2_step_127 : decode cX2_step 127 = .ok (.getfield 46, 3) := by decide +kernel
theorem dX2_step_130 : decode cX2_step 130 = .ok (.iload_n 1, 1) := by decide +kernel
theorem dX2_step_131 : decode cX2_step 131 = .ok (.dup2, 1) := by decide +kernel
theorem dX2_step_132 : decode cX2_step 132 = .ok (.iaload, 1) := by decide +kernel
theorem dX2_step_133 : decode cX2_step 133 = .ok (.iload 6, 2) := by decide +kernel
theorem dX2_step_135 : decode cX2_step 135 = .ok (.aload_n 0, 1) := by decide +kernel
theorem dX2_step_136 : decode cX2_step 136 = .ok (.getfield 46, 3) := by decide +kernel
theorem dX2_step_139 : decode cX2_step 139 = .ok (.iload_n 1, 1) := by decide +kernel
theorem dX2_step_140 : decode cX2_step 140 = .ok (.iaload, 1) := by decide +kernel
theorem dX2_step_141 : decode cX2_step 141 = .ok (.if_icmp .ne 7, 3) := by decide +kernel
theorem dX2_step_144 : decode cX2_step 144 = .ok (.iconst 1, 1) := by decide +kernel
theorem dX2_step_145 : decode cX2_step 145 = .ok (.goto 4, 3) := by decide +kernel
theorem dX2_step_148 : decode cX2_step 148 = .ok (.iconst 0, 1) := by decide +kernel
theorem dX2_step_149 : decode cX2_step 149 = .ok (.iadd, 1) := by decide +kernel
theorem dX2_step_150 : decode cX2_step 150 = .ok (.iastore, 1) := by decide +kernel
theorem dX2_step_151 : decode cX2_step 151 = .ok (.aload_n 0, 1) := by decide +kernel
theorem dX2_step_152 : decode cX2_step 152 = .ok (.getfield 46, 3) := by decide +kernel
theorem dX2_step_155 : decode cX2_step 155 = .ok (.iload_n 1, 1) := by decide +kernel
theorem dX2_step_156 : decode cX2_step 156 = .ok (.iaload, 1) := by decide +kernel
theorem dX2_step_157 : decode cX2_step 157 = .ok (.ireturn, 1) := by decide +kernel
set_option maxRecDepth 20000 in
theorem ggX2_setTerms_X2_isIn : GoodIn wsX2_setTerms wsX2_isIn := goodIn_r _ [6] (by decide +kernel) (by decide +kernel)
set_option maxRecDepth 20000 in
theorem gX2_setTerms_X2_isIn : GoodIn wsX2_setTerms (va_wsS RX2 62 yX2_isIn wsX2_isIn) := goodIn_app (goodIn_of _ (by decide +kernel)) ggX2_setTerms_X2_isIn
set_option maxRecDepth 20000 in
theorem ggX2_setTerms_X2_isLease : GoodIn wsX2_setTerms wsX2_isLease := goodIn_r _ [10, 11, 3, 4, 5, 6, 17, 18, 19, 20, 21, 22, 23, 24, 25, 26, 27, 28, 29, 30, 31, 32, 33] (by decide +kernel) (by decide +kernel)
set_option maxRecDepth 20000 in
theorem gX2_setTerms_X2_isLease : GoodIn wsX2_setTerms (wsV RX2 75 RX2 yX2_isLease wsX2_isLease) := goodIn_app (goodIn_of _ (by decide +kernel)) ggX2_setTerms_X2_isLease
set_option maxRecDepth 20000 in
theorem ggX2_setTerms_X2_holds : GoodIn wsX2_setTerms wsX2_holds := goodIn_r _ [15, 16, 17, 18, 19, 20, 21, 22, 23, 24, 25, 26, 27, 28, 29, 30, 31, 32, 33] (by decide +kernel) (by decide +kernel)
set_option maxRecDepth 20000 in
theorem gX2_setTerms_X2_holds : GoodIn wsX2_setTerms (wsV RX2 66 RX2 yX2_holds wsX2_holds) := goodIn_app (goodIn_of _ (by decide +kernel)) ggX2_setTerms_X2_holds
theorem dX2_setTerms_0 : decode cX2_setTerms 0 = .ok (.iload_n 2, 1) := by decide +kernel
theorem dX2_setTerms_1 : decode cX2_setTerms 1 = .ok (.iconst 0, 1) := by decide +kernel
theorem dX2_setTerms_2 : decode cX2_setTerms 2 = .ok (.sipush 720, 3) := by decide +kernel
theorem dX2_setTerms_5 : decode cX2_setTerms 5 = .ok (.invokestatic 62, 3) := by decide +kernel
theorem dX2_setTerms_8 : decode cX2_setTerms 8 = .ok (.ifCond .eq 23, 3) := by decide +kernel
theorem dX2_setTerms_11 : decode cX2_setTerms 11 = .ok (.iload_n 3, 1) := by decide +kernel
theorem dX2_setTerms_12 : decode cX2_setTerms 12 = .ok (.ifCond .eq 15, 3) := by decide +kernel
theorem dX2_setTerms_15 : decode cX2_setTerms 15 = .ok (.iload_n 3, 1) := by decide +kernel
theorem dX2_setTerms_16 : decode cX2_setTerms 16 = .ok (.bipush 30, 2) := by decide +kernel
theorem dX2_setTerms_18 : decode cX2_setTerms 18 = .ok (.sipush 1800, 3) := by decide +kernel
theorem dX2_setTerms_21 : decode cX2_setTerms 21 = .ok (.invokestatic 62, 3) := by decide +kernel
theorem dX2_setTerms_24 : decode cX2_setTerms 24 = .ok (.ifCond .eq 7, 3) := by decide +kernel
theorem dX2_setTerms_27 : decode cX2_setTerms 27 = .ok (.iconst 1, 1) := by decide +kernel
theorem dX2_setTerms_28 : decode cX2_setTerms 28 = .ok (.goto 4, 3) := by decide +kernel
theorem dX2_setTerms_31 : decode cX2_setTerms 31 = .ok (.iconst 0, 1) := by decide +kernel
theorem dX2_setTerms_32 : decode cX2_setTerms 32 = .ok (.istore 4, 2) := by decide +kernel
theorem dX2_setTerms_34 : decode cX2_setTerms 34 = .ok (.aload_n 0, 1) := by decide +kernel
theorem dX2_setTerms_35 : decode cX2_setTerms 35 = .ok (.aload_n 0, 1) := by decide +kernel
theorem dX2_setTerms_36 : decode cX2_setTerms 36 = .ok (.iload_n 1, 1) := by decide +kernel
theorem dX2_setTerms_37 : decode cX2_setTerms 37 = .ok (.invokevirtual 75, 3) := by decide +kernel
theorem dX2_setTerms_40 : decode cX2_setTerms 40 = .ok (.ifCond .ne 7, 3) := by decide +kernel
theorem dX2_setTerms_43 : decode cX2_setTerms 43 = .ok (.iconst 1, 1) := by decide +kernel
theorem dX2_setTerms_44 : decode cX2_setTerms 44 = .ok (.goto 13, 3) := by decide +kernel
theorem dX2_setTerms_47 : decode cX2_setTerms 47 = .ok (.iload 4, 2) := by decide +kernel
theorem dX2_setTerms_49 : decode cX2_setTerms 49 = .ok (.ifCond .eq 7, 3) := by decide +kernel
theorem dX2_setTerms_52 : decode cX2_setTerms 52 = .ok (.iconst 0, 1) := by decide +kernel
theorem dX2_setTerms_53 : decode cX2_setTerms 53 = .ok (.goto 4, 3) := by decide +kernel
theorem dX2_setTerms_56 : decode cX2_setTerms 56 = .ok (.iconst 2, 1) := by decide +kernel
theorem dX2_setTerms_57 : decode cX2_setTerms 57 = .ok (.invokevirtual 66, 3) := by decide +kernel
theorem dX2_setTerms_60 : decode cX2_setTerms 60 = .ok (.ifCond .eq 17, 3) := by decide +kernel
theorem dX2_setTerms_63 : decode cX2_setTerms 63 = .ok (.aload_n 0, 1) := by decide +kernel
theorem dX2_setTerms_64 : decode cX2_setTerms 64 = .ok (.getfield 31, 3) := by decide +kernel
theorem dX2_setTerms_67 : decode cX2_setTerms 67 = .ok (.iload_n 1, 1) := by decide +kernel
theorem dX2_setTerms_68 : decode cX2_setTerms 68 = .ok (.iload_n 2, 1) := by decide +kernel
theorem dX2_setTerms_69 : decode cX2_setTerms 69 = .ok (.iastore, 1) := by decide +kernel
theorem dX2_setTerms_70 : decode cX2_setTerms 70 = .ok (.aload_n 0, 1) := by decide +kernel
theorem dX2_setTerms_71 : decode cX2_setTerms 71 = .ok (.getfield 34, 3) := by decide +kernel
theorem dX2_setTerms_74 : decode cX2_setTerms 74 = .ok (.iload_n 1, 1) := by decide +kernel
theorem dX2_setTerms_75 : decode cX2_setTerms 75 = .ok (.iload_n 3, 1) := by decide +kernel
theorem dX2_setTerms_76 : decode cX2_setTerms 76 = .ok (.iastore, 1) := by decide +kernel
theorem dX2_setTerms_77 : decode cX2_setTerms 77 = .ok (.return_, 1) := by decide +kernel
set_option maxRecDepth 20000 in
theorem ggX2_setService_X2_isIn : GoodIn wsX2_setService wsX2_isIn := goodIn_r _ [7] (by decide +kernel) (by decide +kernel)
set_option maxRecDepth 20000 in
theorem gX2_setService_X2_isIn : GoodIn wsX2_setService (va_wsS RX2 62 yX2_isIn wsX2_isIn) := goodIn_app (goodIn_of _ (by decide +kernel)) ggX2_setService_X2_isIn
set_option maxRecDepth 20000 in
theorem ggX2_setService_X2_isLease : GoodIn wsX2_setService wsX2_isLease := goodIn_r _ [11, 12, 4, 5, 6, 7, 18, 19, 20, 21, 22, 23, 24, 25, 26, 27, 28, 29, 30, 31, 32, 33, 34] (by decide +kernel) (by decide +kernel)
set_option maxRecDepth 20000 in
theorem gX2_setService_X2_isLease : GoodIn wsX2_setService (wsV RX2 75 RX2 yX2_isLease wsX2_isLease) := goodIn_app (goodIn_of _ (by decide +kernel)) ggX2_setService_X2_isLease
set_option maxRecDepth 20000 in
theorem ggX2_setService_X2_holds : GoodIn wsX2_setService wsX2_holds := goodIn_r _ [16, 17, 18, 19, 20, 21, 22, 23, 24, 25, 26, 27, 28, 29, 30, 31, 32, 33, 34] (by decide +kernel) (by decide +kernel)
set_option maxRecDepth 20000 in
theorem gX2_setService_X2_holds : GoodIn wsX2_setService (wsV RX2 66 RX2 yX2_holds wsX2_holds) := goodIn_app (goodIn_of _ (by decide +kernel)) ggX2_setService_X2_holds
theorem dX2_setService_0 : decode cX2_setService 0 = .ok (.iload_n 2, 1) := by decide +kernel
theorem dX2_setService_1 : decode cX2_setService 1 = .ok (.iconst (-1), 1) := by decide +kernel
theorem dX2_setService_2 : decode cX2_setService 2 = .ok (.ldc 70, 2) := by decide +kernel
theorem dX2_setService_4 : decode cX2_setService 4 = .ok (.invokestatic 62, 3) := by decide +kernel
theorem dX2_setService_7 : decode cX2_setService 7 = .ok (.ifCond .eq 18, 3) := by decide +kernel
theorem dX2_setService_10 : decode cX2_setService 10 = .ok (.iload_n 3, 1) := by decide +kernel
theorem dX2_setService_11 : decode cX2_setService 11 = .ok (.iconst 0, 1) := by decide +kernel
theorem dX2_setService_12 : decode cX2_setService 12 = .ok (.sipush 9999, 3) := by decide +kernel
theorem dX2_setService_15 : decode cX2_setService 15 = .ok (.invokestatic 62, 3) := by decide +kernel
theorem dX2_setService_18 : decode cX2_setService 18 = .ok (.ifCond .eq 7, 3) := by decide +kernel
theorem dX2_setService_21 : decode cX2_setService 21 = .ok (.iconst 1, 1) := by decide +kernel
theorem dX2_setService_22 : decode cX2_setService 22 = .ok (.goto 4, 3) := by decide +kernel
theorem dX2_setService_25 : decode cX2_setService 25 = .ok (.iconst 0, 1) := by decide +kernel
theorem dX2_setService_26 : decode cX2_setService 26 = .ok (.istore 4, 2) := by decide +kernel
theorem dX2_setService_28 : decode cX2_setService 28 = .ok (.aload_n 0, 1) := by decide +kernel
theorem dX2_setService_29 : decode cX2_setService 29 = .ok (.aload_n 0, 1) := by decide +kernel
theorem dX2_setService_30 : decode cX2_setService 30 = .ok (.iload_n 1, 1) := by decide +kernel
theorem dX2_setService_31 : decode cX2_setService 31 = .ok (.invokevirtual 75, 3) := by decide +kernel
theorem dX2_setService_34 : decode cX2_setService 34 = .ok (.ifCond .ne 7, 3) := by decide +kernel
theorem dX2_setService_37 : decode cX2_setService 37 = .ok (.iconst 1, 1) := by decide +kernel
theorem dX2_setService_38 : decode cX2_setService 38 = .ok (.goto 13, 3) := by decide +kernel
theorem dX2_setService_41 : decode cX2_setService 41 = .ok (.iload 4, 2) := by decide +kernel
theorem dX2_setService_43 : decode cX2_setService 43 = .ok (.ifCond .eq 7, 3) := by decide +kernel
theorem dX2_setService_46 : decode cX2_setService 46 = .ok (.iconst 0, 1) := by decide +kernel
theorem dX2_setService_47 : decode cX2_setService 47 = .ok (.goto 4, 3) := by decide +kernel
theorem dX2_setService_50 : decode cX2_setService 50 = .ok (.iconst 2, 1) := by decide +kernel
theorem dX2_setService_51 : decode cX2_setService 51 = .ok (.invokevirtual 66, 3) := by decide +kernel
theorem dX2_setService_54 : decode cX2_setService 54 = .ok (.ifCond .eq 17, 3) := by decide +kernel
theorem dX2_setService_57 : decode cX2_setService 57 = .ok (.aload_n 0, 1) := by decide +kernel
theorem dX2_setService_58 : decode cX2_setService 58 = .ok (.getfield 37, 3) := by decide +kernel
theorem dX2_setService_61 : decode cX2_setService 61 = .ok (.iload_n 1, 1) := by decide +kernel
theorem dX2_setService_62 : decode cX2_setService 62 = .ok (.iload_n 2, 1) := by decide +kernel
theorem dX2_setService_63 : decode cX2_setService 63 = .ok (.iastore, 1) := by decide +kernel
theorem dX2_setService_64 : decode cX2_setService 64 = .ok (.aload_n 0, 1) := by decide +kernel
theorem dX2_setService_65 : decode cX2_setService 65 = .ok (.getfield 40, 3) := by decide +kernel
theorem dX2_setService_68 : decode cX2_setService 68 = .ok (.iload_n 1, 1) := by decide +kernel
theorem dX2_setService_69 : decode cX2_setService 69 = .ok (.iload_n 3, 1) := by decide +kernel
theorem dX2_setService_70 : decode cX2_setService 70 = .ok (.iastore, 1) := by decide +kernel
theorem dX2_setService_71 : decode cX2_setService 71 = .ok (.return_, 1) := by decide +kernel
theorem dX2_agreed_0 : decode cX2_agreed 0 = .ok (.aload_n 0, 1) := by decide +kernel
theorem dX2_agreed_1 : decode cX2_agreed 1 = .ok (.getfield 28, 3) := by decide +kernel
theorem dX2_agreed_4 : decode cX2_agreed 4 = .ok (.iload_n 1, 1) := by decide +kernel
theorem dX2_agreed_5 : decode cX2_agreed 5 = .ok (.iaload, 1) := by decide +kernel
theorem dX2_agreed_6 : decode cX2_agreed 6 = .ok (.istore_n 3, 1) := by decide +kernel
theorem dX2_agreed_7 : decode cX2_agreed 7 = .ok (.iconst (-1), 1) := by decide +kernel
theorem dX2_agreed_8 : decode cX2_agreed 8 = .ok (.istore 4, 2) := by decide +kernel
theorem dX2_agreed_10 : decode cX2_agreed 10 = .ok (.bipush 6, 2) := by decide +kernel
theorem dX2_agreed_12 : decode cX2_agreed 12 = .ok (.iload_n 1, 1) := by decide +kernel
theorem dX2_agreed_13 : decode cX2_agreed 13 = .ok (.imul, 1) := by decide +kernel
theorem dX2_agreed_14 : decode cX2_agreed 14 = .ok (.istore 5, 2) := by decide +kernel
theorem dX2_agreed_16 : decode cX2_agreed 16 = .ok (.iload 5, 2) := by decide +kernel
theorem dX2_agreed_18 : decode cX2_agreed 18 = .ok (.bipush 6, 2) := by decide +kernel
theorem dX2_agreed_20 : decode cX2_agreed 20 = .ok (.iload_n 1, 1) := by decide +kernel
theorem dX2_agreed_21 : decode cX2_agreed 21 = .ok (.imul, 1) := by decide +kernel
theorem dX2_agreed_22 : decode cX2_agreed 22 = .ok (.aload_n 0, 1) := by decide +kernel
theorem dX2_agreed_23 : decode cX2_agreed 23 = .ok (.getfield 46, 3) := by decide +kernel
theorem dX2_agreed_26 : decode cX2_agreed 26 = .ok (.iload_n 1, 1) := by decide +kernel
theorem dX2_agreed_27 : decode cX2_agreed 27 = .ok (.iaload, 1) := by decide +kernel
theorem dX2_agreed_28 : decode cX2_agreed 28 = .ok (.iadd, 1) := by decide +kernel
theorem dX2_agreed_29 : decode cX2_agreed 29 = .ok (.if_icmp .ge 75, 3) := by decide +kernel
theorem dX2_agreed_32 : decode cX2_agreed 32 = .ok (.aload_n 0, 1) := by decide +kernel
theorem dX2_agreed_33 : decode cX2_agreed 33 = .ok (.getfield 49, 3) := by decide +kernel
theorem dX2_agreed_36 : decode cX2_agreed 36 = .ok (.iload 5, 2) := by decide +kernel
theorem dX2_agreed_38 : decode cX2_agreed 38 = .ok (.iaload, 1) := by decide +kernel
theorem dX2_agreed_39 : decode cX2_agreed 39 = .ok (.iload_n 2, 1) := by decide +kernel
theorem dX2_agreed_40 : decode cX2_agreed 40 = .ok (.if_icmp .gt 19, 3) := by decide +kernel
theorem dX2_agreed_43 : decode cX2_agreed 43 = .ok (.aload_n 0, 1) := by decide +kernel
theorem dX2_agreed_44 : decode cX2_agreed 44 = .ok (.getfield 49, 3) := by decide +kernel
theorem dX2_agreed_47 : decode cX2_agreed 47 = .ok (.iload 5, 2) := by decide +kernel
theorem dX2_agreed_49 : decode cX2_agreed 49 = .ok (.iaload, 1) := by decide +kernel
theorem dX2_agreed_50 : decode cX2_agreed 50 = .ok (.iload 4, 2) := by decide +kernel
theorem dX2_agreed_52 : decode cX2_agreed 52 = .ok (.if_icmp .le 7, 3) := by decide +kernel
theorem dX2_agreed_55 : decode cX2_agreed 55 = .ok (.iconst 1, 1) := by decide +kernel
theorem dX2_agreed_56 : decode cX2_agreed 56 = .ok (.goto 4, 3) := by decide +kernel
theorem dX2_agreed_59 : decode cX2_agreed 59 = .ok (.iconst 0, 1) := by decide +kernel
theorem dX2_agreed_60 : decode cX2_agreed 60 = .ok (.istore 6, 2) := by decide +kernel
theorem dX2_agreed_62 : decode cX2_agreed 62 = .ok (.iload 6, 2) := by decide +kernel
theorem dX2_agreed_64 : decode cX2_agreed 64 = .ok (.ifCond .eq 13, 3) := by decide +kernel
theorem dX2_agreed_67 : decode cX2_agreed 67 = .ok (.aload_n 0, 1) := by decide +kernel
theorem dX2_agreed_68 : decode cX2_agreed 68 = .ok (.getfield 52, 3) := by decide +kernel
theorem dX2_agreed_71 : decode cX2_agreed 71 = .ok (.iload 5, 2) := by decide +kernel
theorem dX2_agreed_73 : decode cX2_agreed 73 = .ok (.iaload, 1) := by decide +kernel
theorem dX2_agreed_74 : decode cX2_agreed 74 = .ok (.goto 4, 3) := by decide +kernel
theorem dX2_agreed_77 : decode cX2_agreed 77 = .ok (.iload_n 3, 1) := by decide +kernel
theorem dX2_agreed_78 : decode cX2_agreed 78 = .ok (.istore_n 3, 1) := by decide +kernel
theorem dX2_agreed_79 : decode cX2_agreed 79 = .ok (.iload 6, 2) := by decide +kernel
theorem dX2_agreed_81 : decode cX2_agreed 81 = .ok (.ifCond .eq 13, 3) := by decide +kernel
theorem dX2_agreed_84 : decode cX2_agreed 84 = .ok (.aload_n 0, 1) := by decide +kernel
theorem dX2_agreed_85 : decode cX2_agreed 85 = .ok (.getfield 49, 3) := by decide +kernel
theorem dX2_agreed_88 : decode cX2_agreed 88 = .ok (.iload 5, 2) := by decide +kernel
theorem dX2_agreed_90 : decode cX2_agreed 90 = .ok (.iaload, 1) := by decide +kernel
theorem dX2_agreed_91 : decode cX2_agreed 91 = .ok (.goto 5, 3) := by decide +kernel
theorem dX2_agreed_94 : decode cX2_agreed 94 = .ok (.iload 4, 2) := by decide +kernel
theorem dX2_agreed_96 : decode cX2_agreed 96 = .ok (.istore 4, 2) := by decide +kernel
theorem dX2_agreed_98 : decode cX2_agreed 98 = .ok (.iinc 5 1, 3) := by decide +kernel
theorem dX2_agreed_101 : decode cX2_agreed 101 = .ok (.goto (-85), 3) := by decide +kernel
theorem dX2_agreed_104 : decode cX2_agreed 104 = .ok (.iload_n 3, 1) := by decide +kernel
theorem dX2_agreed_105 : decode cX2_agreed 105 = .ok (.ireturn, 1) := by decide +kernel
theorem dX2_greatestIndex_0 : decode cX2_greatestIndex 0 = .ok (.iconst 0, 1) := by decide +kernel
theorem dX2_greatestIndex_1 : decode cX2_greatestIndex 1 = .ok (.istore_n 3, 1) := by decide +kernel
theorem dX2_greatestIndex_2 : decode cX2_greatestIndex 2 = .ok (.aload_n 0, 1) := by decide +kernel
theorem dX2_greatestIndex_3 : decode cX2_greatestIndex 3 = .ok (.getfield 22, 3) := by decide +kernel
theorem dX2_greatestIndex_6 : decode cX2_greatestIndex 6 = .ok (.iload_n 1, 1) := by decide +kernel
theorem dX2_greatestIndex_7 : decode cX2_greatestIndex 7 = .ok (.iaload, 1) := by decide +kernel
theorem dX2_greatestIndex_8 : decode cX2_greatestIndex 8 = .ok (.aload_n 0, 1) := by decide +kernel
theorem dX2_greatestIndex_9 : decode cX2_greatestIndex 9 = .ok (.getfield 34, 3) := by decide +kernel
theorem dX2_greatestIndex_12 : decode cX2_greatestIndex 12 = .ok (.iload_n 1, 1) := by decide +kernel
theorem dX2_greatestIndex_13 : decode cX2_greatestIndex 13 = .ok (.iaload, 1) := by decide +kernel
theorem dX2_greatestIndex_14 : decode cX2_greatestIndex 14 = .ok (.iadd, 1) := by decide +kernel
theorem dX2_greatestIndex_15 : decode cX2_greatestIndex 15 = .ok (.istore 4, 2) := by decide +kernel
theorem dX2_greatestIndex_17 : decode cX2_greatestIndex 17 = .ok (.iload 4, 2) := by decide +kernel
theorem dX2_greatestIndex_19 : decode cX2_greatestIndex 19 = .ok (.iload_n 2, 1) := by decide +kernel
theorem dX2_greatestIndex_20 : decode cX2_greatestIndex 20 = .ok (.if_icmp .gt 51, 3) := by decide +kernel
theorem dX2_greatestIndex_23 : decode cX2_greatestIndex 23 = .ok (.aload_n 0, 1) := by decide +kernel
theorem dX2_greatestIndex_24 : decode cX2_greatestIndex 24 = .ok (.getfield 34, 3) := by decide +kernel
theorem dX2_greatestIndex_27 : decode cX2_greatestIndex 27 = .ok (.iload_n 1, 1) := by decide +kernel
theorem dX2_greatestIndex_28 : decode cX2_greatestIndex 28 = .ok (.iaload, 1) := by decide +kernel
theorem dX2_greatestIndex_29 : decode cX2_greatestIndex 29 = .ok (.ifCond .le 42, 3) := by decide +kernel
theorem dX2_greatestIndex_32 : decode cX2_greatestIndex 32 = .ok (.aload_n 0, 1) := by decide +kernel
theorem dX2_greatestIndex_33 : decode cX2_greatestIndex 33 = .ok (.getfield 13, 3) := by decide +kernel
theorem dX2_greatestIndex_36 : decode cX2_greatestIndex 36 = .ok (.iload 4, 2) := by decide +kernel
theorem dX2_greatestIndex_38 : decode cX2_greatestIndex 38 = .ok (.bipush 30, 2) := by decide +kernel
theorem dX2_greatestIndex_40 : decode cX2_greatestIndex 40 = .ok (.idiv, 1) := by decide +kernel
theorem dX2_greatestIndex_41 : decode cX2_greatestIndex 41 = .ok (.iaload, 1) := by decide +kernel
theorem dX2_greatestIndex_42 : decode cX2_greatestIndex 42 = .ok (.istore 5, 2) := by decide +kernel
theorem dX2_greatestIndex_44 : decode cX2_greatestIndex 44 = .ok (.iload 5, 2) := by decide +kernel
theorem dX2_greatestIndex_46 : decode cX2_greatestIndex 46 = .ok (.iload_n 3, 1) := by decide +kernel
theorem dX2_greatestIndex_47 : decode cX2_greatestIndex 47 = .ok (.if_icmp .le 8, 3) := by decide +kernel
theorem dX2_greatestIndex_50 : decode cX2_greatestIndex 50 = .ok (.iload 5, 2) := by decide +kernel
theorem dX2_greatestIndex_52 : decode cX2_greatestIndex 52 = .ok (.goto 4, 3) := by decide +kernel
theorem dX2_greatestIndex_55 : decode cX2_greatestIndex 55 = .ok (.iload_n 3, 1) := by decide +kernel
theorem dX2_greatestIndex_56 : decode cX2_greatestIndex 56 = .ok (.istore_n 3, 1) := by decide +kernel
theorem dX2_greatestIndex_57 : decode cX2_greatestIndex 57 = .ok (.iload 4, 2) := by decide +kernel
theorem dX2_greatestIndex_59 : decode cX2_greatestIndex 59 = .ok (.aload_n 0, 1) := by decide +kernel
theorem dX2_greatestIndex_60 : decode cX2_greatestIndex 60 = .ok (.getfield 34, 3) := by decide +kernel
theorem dX2_greatestIndex_63 : decode cX2_greatestIndex 63 = .ok (.iload_n 1, 1) := by decide +kernel
theorem dX2_greatestIndex_64 : decode cX2_greatestIndex 64 = .ok (.iaload, 1) := by decide +kernel
theorem dX2_greatestIndex_65 : decode cX2_greatestIndex 65 = .ok (.iadd, 1) := by decide +kernel
theorem dX2_greatestIndex_66 : decode cX2_greatestIndex 66 = .ok (.istore 4, 2) := by decide +kernel
theorem dX2_greatestIndex_68 : decode cX2_greatestIndex 68 = .ok (.goto (-51), 3) := by decide +kernel
theorem dX2_greatestIndex_71 : decode cX2_greatestIndex 71 = .ok (.iload_n 3, 1) := by decide +kernel
theorem dX2_greatestIndex_72 : decode cX2_greatestIndex 72 = .ok (.ireturn, 1) := by decide +kernel
theorem dX2_isDayOf_0 : decode cX2_isDayOf 0 = .ok (.iload_n 2, 1) := by decide +kernel
theorem dX2_isDayOf_1 : decode cX2_isDayOf 1 = .ok (.aload_n 0, 1) := by decide +kernel
theorem dX2_isDayOf_2 : decode cX2_isDayOf 2 = .ok (.getfield 22, 3) := by decide +kernel
theorem dX2_isDayOf_5 : decode cX2_isDayOf 5 = .ok (.iload_n 1, 1) := by decide +kernel
theorem dX2_isDayOf_6 : decode cX2_isDayOf 6 = .ok (.iaload, 1) := by decide +kernel
theorem dX2_isDayOf_7 : decode cX2_isDayOf 7 = .ok (.if_icmp .lt 17, 3) := by decide +kernel
theorem dX2_isDayOf_10 : decode cX2_isDayOf 10 = .ok (.iload_n 2, 1) := by decide +kernel
theorem dX2_isDayOf_11 : decode cX2_isDayOf 11 = .ok (.aload_n 0, 1) := by decide +kernel
theorem dX2_isDayOf_12 : decode cX2_isDayOf 12 = .ok (.getfield 25, 3) := by decide +kernel
theorem dX2_isDayOf_15 : decode cX2_isDayOf 15 = .ok (.iload_n 1, 1) := by decide +kernel
theorem dX2_isDayOf_16 : decode cX2_isDayOf 16 = .ok (.iaload, 1) := by decide +kernel
theorem dX2_isDayOf_17 : decode cX2_isDayOf 17 = .ok (.if_icmp .ge 7, 3) := by decide +kernel
theorem dX2_isDayOf_20 : decode cX2_isDayOf 20 = .ok (.iconst 1, 1) := by decide +kernel
theorem dX2_isDayOf_21 : decode cX2_isDayOf 21 = .ok (.goto 4, 3) := by decide +kernel
theorem dX2_isDayOf_24 : decode cX2_isDayOf 24 = .ok (.iconst 0, 1) := by decide +kernel
theorem dX2_isDayOf_25 : decode cX2_isDayOf 25 = .ok (.ireturn, 1) := by decide +kernel
set_option maxRecDepth 20000 in
theorem ggX2_rentAt_X2_isDayOf : GoodIn wsX2_rentAt wsX2_isDayOf := goodIn_r _ [8, 1, 9, 23, 24, 25, 26, 27, 28, 29, 30, 31, 32, 33, 34, 35, 36, 37, 38, 39] (by decide +kernel) (by decide +kernel)
set_option maxRecDepth 20000 in
theorem gX2_rentAt_X2_isDayOf : GoodIn wsX2_rentAt (wsV RX2 82 RX2 yX2_isDayOf wsX2_isDayOf) := goodIn_app (goodIn_of _ (by decide +kernel)) ggX2_rentAt_X2_isDayOf
set_option maxRecDepth 20000 in
theorem ggX2_rentAt_X2_agreed : GoodIn wsX2_rentAt wsX2_agreed := goodIn_r _ [13, 14, 15, 16, 17, 23, 24, 25, 26, 27, 28, 29, 30, 31, 32, 33, 34, 35, 36, 37, 38, 39] (by decide +kernel) (by decide +kernel)
set_option maxRecDepth 20000 in
theorem gX2_rentAt_X2_agreed : GoodIn wsX2_rentAt (wsV RX2 86 RX2 yX2_agreed wsX2_agreed) := goodIn_app (goodIn_of _ (by decide +kernel)) ggX2_rentAt_X2_agreed
set_option maxRecDepth 20000 in
theorem ggX2_rentAt_X2_greatestIndex : GoodIn wsX2_rentAt wsX2_greatestIndex := goodIn_r _ [21, 1, 22, 3, 23, 24, 25, 26, 27, 28, 29, 30, 31, 32, 33, 34, 35, 36, 37, 38, 39] (by decide +kernel) (by decide +kernel)
set_option maxRecDepth 20000 in
theorem gX2_rentAt_X2_greatestIndex : GoodIn wsX2_rentAt (wsV RX2 89 RX2 yX2_greatestIndex wsX2_greatestIndex) := goodIn_app (goodIn_of _ (by decide +kernel)) ggX2_rentAt_X2_greatestIndex
theorem dX2_rentAt_0 : decode cX2_rentAt 0 = .ok (.aload_n 0, 1) := by decide +kernel
theorem dX2_rentAt_1 : decode cX2_rentAt 1 = .ok (.iload_n 1, 1) := by decide +kernel
theorem dX2_rentAt_2 : decode cX2_rentAt 2 = .ok (.iload_n 2, 1) := by decide +kernel
theorem dX2_rentAt_3 : decode cX2_rentAt 3 = .ok (.invokevirtual 82, 3) := by decide +kernel
theorem dX2_rentAt_6 : decode cX2_rentAt 6 = .ok (.ifCond .eq 20, 3) := by decide +kernel
theorem dX2_rentAt_9 : decode cX2_rentAt 9 = .ok (.iload_n 2, 1) := by decide +kernel
theorem dX2_rentAt_10 : decode cX2_rentAt 10 = .ok (.aload_n 0, 1) := by decide +kernel
theorem dX2_rentAt_11 : decode cX2_rentAt 11 = .ok (.getfield 22, 3) := by decide +kernel
theorem dX2_rentAt_14 : decode cX2_rentAt 14 = .ok (.iload_n 1, 1) := by decide +kernel
theorem dX2_rentAt_15 : decode cX2_rentAt 15 = .ok (.iaload, 1) := by decide +kernel
theorem dX2_rentAt_16 : decode cX2_rentAt 16 = .ok (.aload_n 0, 1) := by decide +kernel
theorem dX2_rentAt_17 : decode cX2_rentAt 17 = .ok (.getfield 31, 3) := by decide +kernel
theorem dX2_rentAt_20 : decode cX2_rentAt 20 = .ok (.iload_n 1, 1) := by decide +kernel
theorem dX2_rentAt_21 : decode cX2_rentAt 21 = .ok (.iaload, 1) := by decide +kernel
theorem dX2_rentAt_22 : decode cX2_rentAt 22 = .ok (.iadd, 1) := by decide +kernel
theorem dX2_rentAt_23 : decode cX2_rentAt 23 = .ok (.if_icmp .ge 5, 3) := by decide +kernel
theorem dX2_rentAt_26 : decode cX2_rentAt 26 = .ok (.iconst 0, 1) := by decide +kernel
theorem dX2_rentAt_27 : decode cX2_rentAt 27 = .ok (.ireturn, 1) := by decide +kernel
theorem dX2_rentAt_28 : decode cX2_rentAt 28 = .ok (.aload_n 0, 1) := by decide +kernel
theorem dX2_rentAt_29 : decode cX2_rentAt 29 = .ok (.iload_n 1, 1) := by decide +kernel
theorem dX2_rentAt_30 : decode cX2_rentAt 30 = .ok (.iload_n 2, 1) := by decide +kernel
theorem dX2_rentAt_31 : decode cX2_rentAt 31 = .ok (.invokevirtual 86, 3) := by decide +kernel
theorem dX2_rentAt_34 : decode cX2_rentAt 34 = .ok (.istore_n 3, 1) := by decide +kernel
theorem dX2_rentAt_35 : decode cX2_rentAt 35 = .ok (.iload_n 3, 1) := by decide +kernel
theorem dX2_rentAt_36 : decode cX2_rentAt 36 = .ok (.aload_n 0, 1) := by decide +kernel
theorem dX2_rentAt_37 : decode cX2_rentAt 37 = .ok (.iload_n 1, 1) := by decide +kernel
theorem dX2_rentAt_38 : decode cX2_rentAt 38 = .ok (.iload_n 2, 1) := by decide +kernel
theorem dX2_rentAt_39 : decode cX2_rentAt 39 = .ok (.invokevirtual 89, 3) := by decide +kernel
theorem dX2_rentAt_42 : decode cX2_rentAt 42 = .ok (.imul, 1) := by decide +kernel
theorem dX2_rentAt_43 : decode cX2_rentAt 43 = .ok (.aload_n 0, 1) := by decide +kernel
theorem dX2_rentAt_44 : decode cX2_rentAt 44 = .ok (.getfield 13, 3) := by decide +kernel
theorem dX2_rentAt_47 : decode cX2_rentAt 47 = .ok (.aload_n 0, 1) := by decide +kernel
theorem dX2_rentAt_48 : decode cX2_rentAt 48 = .ok (.getfield 22, 3) := by decide +kernel
theorem dX2_rentAt_51 : decode cX2_rentAt 51 = .ok (.iload_n 1, 1) := by decide +kernel
theorem dX2_rentAt_52 : decode cX2_rentAt 52 = .ok (.iaload, 1) := by decide +kernel
theorem dX2_rentAt_53 : decode cX2_rentAt 53 = .ok (.bipush 30, 2) := by decide +kernel
theorem dX2_rentAt_55 : decode cX2_rentAt 55 = .ok (.idiv, 1) := by decide +kernel
theorem dX2_rentAt_56 : decode cX2_rentAt 56 = .ok (.iaload, 1) := by decide +kernel
theorem dX2_rentAt_57 : decode cX2_rentAt 57 = .ok (.idiv, 1) := by decide +kernel
theorem dX2_rentAt_58 : decode cX2_rentAt 58 = .ok (.istore 4, 2) := by decide +kernel
theorem dX2_rentAt_60 : decode cX2_rentAt 60 = .ok (.iload 4, 2) := by decide +kernel
theorem dX2_rentAt_62 : decode cX2_rentAt 62 = .ok (.iload_n 3, 1) := by decide +kernel
theorem dX2_rentAt_63 : decode cX2_rentAt 63 = .ok (.if_icmp .le 8, 3) := by decide +kernel
theorem dX2_rentAt_66 : decode cX2_rentAt 66 = .ok (.iload 4, 2) := by decide +kernel
theorem dX2_rentAt_68 : decode cX2_rentAt 68 = .ok (.goto 4, 3) := by decide +kernel
theorem dX2_rentAt_71 : decode cX2_rentAt 71 = .ok (.iload_n 3, 1) := by decide +kernel
theorem dX2_rentAt_72 : decode cX2_rentAt 72 = .ok (.ireturn, 1) := by decide +kernel
set_option maxRecDepth 20000 in
theorem ggX2_billOf_X2_rentAt : GoodIn wsX2_billOf wsX2_rentAt := goodIn_r _ [5, 6, 7, 8, 9, 10, 11, 4, 12, 13, 14, 15, 16, 17, 18, 19, 20, 21, 22, 23, 24, 25, 26, 27, 28, 29, 30, 31, 32, 33, 34, 35, 36, 37, 38, 39, 40, 41, 42, 43] (by decide +kernel) (by decide +kernel)
set_option maxRecDepth 20000 in
theorem gX2_billOf_X2_rentAt : GoodIn wsX2_billOf (wsV RX2 92 RX2 yX2_rentAt wsX2_rentAt) := goodIn_app (goodIn_of _ (by decide +kernel)) ggX2_billOf_X2_rentAt
theorem dX2_billOf_0 : decode cX2_billOf 0 = .ok (.iconst 0, 1) := by decide +kernel
theorem dX2_billOf_1 : decode cX2_billOf 1 = .ok (.istore_n 3, 1) := by decide +kernel
theorem dX2_billOf_2 : decode cX2_billOf 2 = .ok (.bipush 30, 2) := by decide +kernel
theorem dX2_billOf_4 : decode cX2_billOf 4 = .ok (.iload_n 2, 1) := by decide +kernel
theorem dX2_billOf_5 : decode cX2_billOf 5 = .ok (.imul, 1) := by decide +kernel
theorem dX2_billOf_6 : decode cX2_billOf 6 = .ok (.istore 4, 2) := by decide +kernel
theorem dX2_billOf_8 : decode cX2_billOf 8 = .ok (.iload 4, 2) := by decide +kernel
theorem dX2_billOf_10 : decode cX2_billOf 10 = .ok (.bipush 30, 2) := by decide +kernel
theorem dX2_billOf_12 : decode cX2_billOf 12 = .ok (.iload_n 2, 1) := by decide +kernel
theorem dX2_billOf_13 : decode cX2_billOf 13 = .ok (.imul, 1) := by decide +kernel
theorem dX2_billOf_14 : decode cX2_billOf 14 = .ok (.bipush 30, 2) := by decide +kernel
theorem dX2_billOf_16 : decode cX2_billOf 16 = .ok (.iadd, 1) := by decide +kernel
theorem dX2_billOf_17 : decode cX2_billOf 17 = .ok (.if_icmp .ge 19, 3) := by decide +kernel
theorem dX2_billOf_20 : decode cX2_billOf 20 = .ok (.iload_n 3, 1) := by decide +kernel
theorem dX2_billOf_21 : decode cX2_billOf 21 = .ok (.aload_n 0, 1) := by decide +kernel
theorem dX2_billOf_22 : decode cX2_billOf 22 = .ok (.iload_n 1, 1) := by decide +kernel
theorem dX2_billOf_23 : decode cX2_billOf 23 = .ok (.iload 4, 2) := by decide +kernel
theorem dX2_billOf_25 : decode cX2_billOf 25 = .ok (.invokevirtual 92, 3) := by decide +kernel
theorem dX2_billOf_28 : decode cX2_billOf 28 = .ok (.iadd, 1) := by decide +kernel
theorem dX2_billOf_29 : decode cX2_billOf 29 = .ok (.istore_n 3, 1) := by decide +kernel
theorem dX2_billOf_30 : decode cX2_billOf 30 = .ok (.iinc 4 1, 3) := by decide +kernel
theorem dX2_billOf_33 : decode cX2_billOf 33 = .ok (.goto (-25), 3) := by decide +kernel
theorem dX2_billOf_36 : decode cX2_billOf 36 = .ok (.iload_n 3, 1) := by decide +kernel
theorem dX2_billOf_37 : decode cX2_billOf 37 = .ok (.bipush 30, 2) := by decide +kernel
theorem dX2_billOf_39 : decode cX2_billOf 39 = .ok (.idiv, 1) := by decide +kernel
theorem dX2_billOf_40 : decode cX2_billOf 40 = .ok (.ireturn, 1) := by decide +kernel
set_option maxRecDepth 20000 in
theorem ggX2_topUp_X2_isLease : GoodIn wsX2_topUp wsX2_isLease := goodIn_r _ [6, 7, 8, 9, 5, 10, 41, 42, 43, 44, 45, 46, 47, 48, 49, 50, 51, 52, 53, 54, 55, 56, 57] (by decide +kernel) (by decide +kernel)
set_option maxRecDepth 20000 in
theorem gX2_topUp_X2_isLease : GoodIn wsX2_topUp (wsV RX2 75 RX2 yX2_isLease wsX2_isLease) := goodIn_app (goodIn_of _ (by decide +kernel)) ggX2_topUp_X2_isLease
set_option maxRecDepth 20000 in
theorem ggX2_topUp_X2_isDayOf : GoodIn wsX2_topUp wsX2_isDayOf := goodIn_r _ [14, 15, 16, 41, 42, 43, 44, 45, 46, 47, 48, 49, 50, 51, 52, 53, 54, 55, 56, 57] (by decide +kernel) (by decide +kernel)
set_option maxRecDepth 20000 in
theorem gX2_topUp_X2_isDayOf : GoodIn wsX2_topUp (wsV RX2 82 RX2 yX2_isDayOf wsX2_isDayOf) := goodIn_app (goodIn_of _ (by decide +kernel)) ggX2_topUp_X2_isDayOf
set_option maxRecDepth 20000 in
theorem ggX2_topUp_X2_isIn : GoodIn wsX2_topUp wsX2_isIn := goodIn_r _ [10] (by decide +kernel) (by decide +kernel)
set_option maxRecDepth 20000 in
theorem gX2_topUp_X2_isIn : GoodIn wsX2_topUp (va_wsS RX2 62 yX2_isIn wsX2_isIn) := goodIn_app (goodIn_of _ (by decide +kernel)) ggX2_topUp_X2_isIn
set_option maxRecDepth 20000 in
theorem ggX2_topUp_X2_holds : GoodIn wsX2_topUp wsX2_holds := goodIn_r _ [20, 21, 41, 42, 43, 44, 45, 46, 47, 48, 49, 50, 51, 52, 53, 54, 55, 56, 57] (by decide +kernel) (by decide +kernel)
set_option maxRecDepth 20000 in
theorem gX2_topUp_X2_holds : GoodIn wsX2_topUp (wsV RX2 66 RX2 yX2_holds wsX2_holds) := goodIn_app (goodIn_of _ (by decide +kernel)) ggX2_topUp_X2_holds
set_option maxRecDepth 20000 in
theorem ggX2_topUp_X2_rentAt : GoodIn wsX2_topUp wsX2_rentAt := goodIn_r _ [25, 15, 26, 27, 11, 12, 13, 5, 14, 16, 28, 29, 30, 31, 32, 33, 34, 35, 36, 37, 38, 39, 40, 41, 42, 43, 44, 45, 46, 47, 48, 49, 50, 51, 52, 53, 54, 55, 56, 57] (by decide +kernel) (by decide +kernel)
set_option maxRecDepth 20000 in
theorem gX2_topUp_X2_rentAt : GoodIn wsX2_topUp (wsV RX2 92 RX2 yX2_rentAt wsX2_rentAt) := goodIn_app (goodIn_of _ (by decide +kernel)) ggX2_topUp_X2_rentAt
theorem dX2_topUp_0 : decode cX2_topUp 0 = .ok (.aload_n 0, 1) := by decide +kernel
theorem dX2_topUp_1 : decode cX2_topUp 1 = .ok (.iload_n 1, 1) := by decide +kernel
theorem dX2_topUp_2 : decode cX2_topUp 2 = .ok (.invokevirtual 75, 3) := by decide +kernel
theorem dX2_topUp_5 : decode cX2_topUp 5 = .ok (.istore 4, 2) := by decide +kernel
theorem dX2_topUp_7 : decode cX2_topUp 7 = .ok (.aload_n 0, 1) := by decide +kernel
theorem dX2_topUp_8 : decode cX2_topUp 8 = .ok (.iload 4, 2) := by decide +kernel
theorem dX2_topUp_10 : decode cX2_topUp 10 = .ok (.ifCond .ne 7, 3) := by decide +kernel
theorem dX2_topUp_13 : decode cX2_topUp 13 = .ok (.iconst 1, 1) := by decide +kernel
theorem dX2_topUp_14 : decode cX2_topUp 14 = .ok (.goto 27, 3) := by decide +kernel
theorem dX2_topUp_17 : decode cX2_topUp 17 = .ok (.aload_n 0, 1) := by decide +kernel
theorem dX2_topUp_18 : decode cX2_topUp 18 = .ok (.iload_n 1, 1) := by decide +kernel
theorem dX2_topUp_19 : decode cX2_topUp 19 = .ok (.iload_n 2, 1) := by decide +kernel
theorem dX2_topUp_20 : decode cX2_topUp 20 = .ok (.invokevirtual 82, 3) := by decide +kernel
theorem dX2_topUp_23 : decode cX2_topUp 23 = .ok (.ifCond .eq 17, 3) := by decide +kernel
theorem dX2_topUp_26 : decode cX2_topUp 26 = .ok (.iload_n 3, 1) := by decide +kernel
theorem dX2_topUp_27 : decode cX2_topUp 27 = .ok (.iconst 1, 1) := by decide +kernel
theorem dX2_topUp_28 : decode cX2_topUp 28 = .ok (.bipush 6, 2) := by decide +kernel
theorem dX2_topUp_30 : decode cX2_topUp 30 = .ok (.invokestatic 62, 3) := by decide +kernel
theorem dX2_topUp_33 : decode cX2_topUp 33 = .ok (.ifCond .eq 7, 3) := by decide +kernel
theorem dX2_topUp_36 : decode cX2_topUp 36 = .ok (.iconst 0, 1) := by decide +kernel
theorem dX2_topUp_37 : decode cX2_topUp 37 = .ok (.goto 4, 3) := by decide +kernel
theorem dX2_topUp_40 : decode cX2_topUp 40 = .ok (.iconst 2, 1) := by decide +kernel
theorem dX2_topUp_41 : decode cX2_topUp 41 = .ok (.invokevirtual 66, 3) := by decide +kernel
theorem dX2_topUp_44 : decode cX2_topUp 44 = .ok (.ifCond .ne 5, 3) := by decide +kernel
theorem dX2_topUp_47 : decode cX2_topUp 47 = .ok (.iconst 0, 1) := by decide +kernel
theorem dX2_topUp_48 : decode cX2_topUp 48 = .ok (.ireturn, 1) := by decide +kernel
theorem dX2_topUp_49 : decode cX2_topUp 49 = .ok (.iload_n 3, 1) := by decide +kernel
theorem dX2_topUp_50 : decode cX2_topUp 50 = .ok (.aload_n 0, 1) := by decide +kernel
theorem dX2_topUp_51 : decode cX2_topUp 51 = .ok (.iload_n 1, 1) := by decide +kernel
theorem dX2_topUp_52 : decode cX2_topUp 52 = .ok (.iload_n 2, 1) := by decide +kernel
theorem dX2_topUp_53 : decode cX2_topUp 53 = .ok (.invokevirtual 92, 3) := by decide +kernel
theorem dX2_topUp_56 : decode cX2_topUp 56 = .ok (.imul, 1) := by decide +kernel
theorem dX2_topUp_57 : decode cX2_topUp 57 = .ok (.aload_n 0, 1) := by decide +kernel
theorem dX2_topUp_58 : decode cX2_topUp 58 = .ok (.getfield 43, 3) := by decide +kernel
theorem dX2_topUp_61 : decode cX2_topUp 61 = .ok (.iload_n 1, 1) := by decide +kernel
theorem dX2_topUp_62 : decode cX2_topUp 62 = .ok (.iaload, 1) := by decide +kernel
theorem dX2_topUp_63 : decode cX2_topUp 63 = .ok (.isub, 1) := by decide +kernel
theorem dX2_topUp_64 : decode cX2_topUp 64 = .ok (.istore 5, 2) := by decide +kernel
theorem dX2_topUp_66 : decode cX2_topUp 66 = .ok (.aload_n 0, 1) := by decide +kernel
theorem dX2_topUp_67 : decode cX2_topUp 67 = .ok (.getfield 43, 3) := by decide +kernel
theorem dX2_topUp_70 : decode cX2_topUp 70 = .ok (.iload_n 1, 1) := by decide +kernel
theorem dX2_topUp_71 : decode cX2_topUp 71 = .ok (.dup2, 1) := by decide +kernel
theorem dX2_topUp_72 : decode cX2_topUp 72 = .ok (.iaload, 1) := by decide +kernel
theorem dX2_topUp_73 : decode cX2_topUp 73 = .ok (.iload 5, 2) := by decide +kernel
theorem dX2_topUp_75 : decode cX2_topUp 75 = .ok (.ifCond .le 8, 3) := by decide +kernel
theorem dX2_topUp_78 : decode cX2_topUp 78 = .ok (.iload 5, 2) := by decide +kernel
theorem dX2_topUp_80 : decode cX2_topUp 80 = .ok (.goto 4, 3) := by decide +kernel
theorem dX2_topUp_83 : decode cX2_topUp 83 = .ok (.iconst 0, 1) := by decide +kernel
theorem dX2_topUp_84 : decode cX2_topUp 84 = .ok (.iadd, 1) := by decide +kernel
theorem dX2_topUp_85 : decode cX2_topUp 85 = .ok (.iastore, 1) := by decide +kernel
theorem dX2_topUp_86 : decode cX2_topUp 86 = .ok (.iload 5, 2) := by decide +kernel
theorem dX2_topUp_88 : decode cX2_topUp 88 = .ok (.ifCond .le 8, 3) := by decide +kernel
theorem dX2_topUp_91 : decode cX2_topUp 91 = .ok (.iload 5, 2) := by decide +kernel
theorem dX2_topUp_93 : decode cX2_topUp 93 = .ok (.goto 4, 3) := by decide +kernel
theorem dX2_topUp_96 : decode cX2_topUp 96 = .ok (.iconst 0, 1) := by decide +kernel
theorem dX2_topUp_97 : decode cX2_topUp 97 = .ok (.ireturn, 1) := by decide +kernel
set_option maxRecDepth 20000 in
theorem ggX2_draw_X2_isLease : GoodIn wsX2_draw wsX2_isLease := goodIn_r _ [7, 8, 9, 10, 6, 11, 17, 18, 19, 20, 21, 22, 23, 24, 25, 26, 27, 28, 29, 30, 31, 32, 33] (by decide +kernel) (by decide +kernel)
set_option maxRecDepth 20000 in
theorem gX2_draw_X2_isLease : GoodIn wsX2_draw (wsV RX2 75 RX2 yX2_isLease wsX2_isLease) := goodIn_app (goodIn_of _ (by decide +kernel)) ggX2_draw_X2_isLease
set_option maxRecDepth 20000 in
theorem ggX2_draw_X2_isIn : GoodIn wsX2_draw wsX2_isIn := goodIn_r _ [11] (by decide +kernel) (by decide +kernel)
set_option maxRecDepth 20000 in
theorem gX2_draw_X2_isIn : GoodIn wsX2_draw (va_wsS RX2 62 yX2_isIn wsX2_isIn) := goodIn_app (goodIn_of _ (by decide +kernel)) ggX2_draw_X2_isIn
set_option maxRecDepth 20000 in
theorem ggX2_draw_X2_holds : GoodIn wsX2_draw wsX2_holds := goodIn_r _ [15, 16, 17, 18, 19, 20, 21, 22, 23, 24, 25, 26, 27, 28, 29, 30, 31, 32, 33] (by decide +kernel) (by decide +kernel)
set_option maxRecDepth 20000 in
theorem gX2_draw_X2_holds : GoodIn wsX2_draw (wsV RX2 66 RX2 yX2_holds wsX2_holds) := goodIn_app (goodIn_of _ (by decide +kernel)) ggX2_draw_X2_holds
theorem dX2_draw_0 : decode cX2_draw 0 = .ok (.aload_n 0, 1) := by decide +kernel
theorem dX2_draw_1 : decode cX2_draw 1 = .ok (.iload_n 1, 1) := by decide +kernel
theorem dX2_draw_2 : decode cX2_draw 2 = .ok (.invokevirtual 75, 3) := by decide +kernel
theorem dX2_draw_5 : decode cX2_draw 5 = .ok (.istore_n 3, 1) := by decide +kernel
theorem dX2_draw_6 : decode cX2_draw 6 = .ok (.aload_n 0, 1) := by decide +kernel
theorem dX2_draw_7 : decode cX2_draw 7 = .ok (.iload_n 3, 1) := by decide +kernel
theorem dX2_draw_8 : decode cX2_draw 8 = .ok (.ifCond .ne 7, 3) := by decide +kernel
theorem dX2_draw_11 : decode cX2_draw 11 = .ok (.iconst 1, 1) := by decide +kernel
theorem dX2_draw_12 : decode cX2_draw 12 = .ok (.goto 32, 3) := by decide +kernel
theorem dX2_draw_15 : decode cX2_draw 15 = .ok (.iload_n 2, 1) := by decide +kernel
theorem dX2_draw_16 : decode cX2_draw 16 = .ok (.iconst 1, 1) := by decide +kernel
theorem dX2_draw_17 : decode cX2_draw 17 = .ok (.ldc 70, 2) := by decide +kernel
theorem dX2_draw_19 : decode cX2_draw 19 = .ok (.invokestatic 62, 3) := by decide +kernel
theorem dX2_draw_22 : decode cX2_draw 22 = .ok (.ifCond .ne 7, 3) := by decide +kernel
theorem dX2_draw_25 : decode cX2_draw 25 = .ok (.iconst 2, 1) := by decide +kernel
theorem dX2_draw_26 : decode cX2_draw 26 = .ok (.goto 18, 3) := by decide +kernel
theorem dX2_draw_29 : decode cX2_draw 29 = .ok (.aload_n 0, 1) := by decide +kernel
theorem dX2_draw_30 : decode cX2_draw 30 = .ok (.getfield 43, 3) := by decide +kernel
theorem dX2_draw_33 : decode cX2_draw 33 = .ok (.iload_n 1, 1) := by decide +kernel
theorem dX2_draw_34 : decode cX2_draw 34 = .ok (.iaload, 1) := by decide +kernel
theorem dX2_draw_35 : decode cX2_draw 35 = .ok (.iload_n 2, 1) := by decide +kernel
theorem dX2_draw_36 : decode cX2_draw 36 = .ok (.if_icmp .ge 7, 3) := by decide +kernel
theorem dX2_draw_39 : decode cX2_draw 39 = .ok (.iconst 3, 1) := by decide +kernel
theorem dX2_draw_40 : decode cX2_draw 40 = .ok (.goto 4, 3) := by decide +kernel
theorem dX2_draw_43 : decode cX2_draw 43 = .ok (.iconst 0, 1) := by decide +kernel
theorem dX2_draw_44 : decode cX2_draw 44 = .ok (.invokevirtual 66, 3) := by decide +kernel
theorem dX2_draw_47 : decode cX2_draw 47 = .ok (.ifCond .ne 5, 3) := by decide +kernel
theorem dX2_draw_50 : decode cX2_draw 50 = .ok (.iconst 0, 1) := by decide +kernel
theorem dX2_draw_51 : decode cX2_draw 51 = .ok (.ireturn, 1) := by decide +kernel
theorem dX2_draw_52 : decode cX2_draw 52 = .ok (.aload_n 0, 1) := by decide +kernel
theorem dX2_draw_53 : decode cX2_draw 53 = .ok (.getfield 43, 3) := by decide +kernel
theorem dX2_draw_56 : decode cX2_draw 56 = .ok (.iload_n 1, 1) := by decide +kernel
theorem dX2_draw_57 : decode cX2_draw 57 = .ok (.dup2, 1) := by decide +kernel
theorem dX2_draw_58 : decode cX2_draw 58 = .ok (.iaload, 1) := by decide +kernel
theorem dX2_draw_59 : decode cX2_draw 59 = .ok (.iload_n 2, 1) := by decide +kernel
theorem dX2_draw_60 : decode cX2_draw 60 = .ok (.isub, 1) := by decide +kernel
theorem dX2_draw_61 : decode cX2_draw 61 = .ok (.iastore, 1) := by decide +kernel
theorem dX2_draw_62 : decode cX2_draw 62 = .ok (.aload_n 0, 1) := by decide +kernel
theorem dX2_draw_63 : decode cX2_draw 63 = .ok (.getfield 43, 3) := by decide +kernel
theorem dX2_draw_66 : decode cX2_draw 66 = .ok (.iload_n 1, 1) := by decide +kernel
theorem dX2_draw_67 : decode cX2_draw 67 = .ok (.iaload, 1) := by decide +kernel
theorem dX2_draw_68 : decode cX2_draw 68 = .ok (.ireturn, 1) := by decide +kernel
set_option maxRecDepth 20000 in
theorem ggX2_held_X2_isLease : GoodIn wsX2_held wsX2_isLease := goodIn_r _ [6, 7, 8, 9, 5, 10, 16, 17, 18, 19, 20, 21, 22, 23, 24, 25, 26, 27, 28, 29, 30, 31, 32] (by decide +kernel) (by decide +kernel)
set_option maxRecDepth 20000 in
theorem gX2_held_X2_isLease : GoodIn wsX2_held (wsV RX2 75 RX2 yX2_isLease wsX2_isLease) := goodIn_app (goodIn_of _ (by decide +kernel)) ggX2_held_X2_isLease
set_option maxRecDepth 20000 in
theorem ggX2_held_X2_holds : GoodIn wsX2_held wsX2_holds := goodIn_r _ [14, 15, 16, 17, 18, 19, 20, 21, 22, 23, 24, 25, 26, 27, 28, 29, 30, 31, 32] (by decide +kernel) (by decide +kernel)
set_option maxRecDepth 20000 in
theorem gX2_held_X2_holds : GoodIn wsX2_held (wsV RX2 66 RX2 yX2_holds wsX2_holds) := goodIn_app (goodIn_of _ (by decide +kernel)) ggX2_held_X2_holds
theorem dX2_held_0 : decode cX2_held 0 = .ok (.aload_n 0, 1) := by decide +kernel
theorem dX2_held_1 : decode cX2_held 1 = .ok (.aload_n 0, 1) := by decide +kernel
theorem dX2_held_2 : decode cX2_held 2 = .ok (.iload_n 1, 1) := by decide +kernel
theorem dX2_held_3 : decode cX2_held 3 = .ok (.invokevirtual 75, 3) := by decide +kernel
theorem dX2_held_6 : decode cX2_held 6 = .ok (.ifCond .eq 7, 3) := by decide +kernel
theorem dX2_held_9 : decode cX2_held 9 = .ok (.iconst 0, 1) := by decide +kernel
theorem dX2_held_10 : decode cX2_held 10 = .ok (.goto 4, 3) := by decide +kernel
theorem dX2_held_13 : decode cX2_held 13 = .ok (.iconst 1, 1) := by decide +kernel
theorem dX2_held_14 : decode cX2_held 14 = .ok (.invokevirtual 66, 3) := by decide +kernel
theorem dX2_held_17 : decode cX2_held 17 = .ok (.ifCond .eq 12, 3) := by decide +kernel
theorem dX2_held_20 : decode cX2_held 20 = .ok (.aload_n 0, 1) := by decide +kernel
theorem dX2_held_21 : decode cX2_held 21 = .ok (.getfield 43, 3) := by decide +kernel
theorem dX2_held_24 : decode cX2_held 24 = .ok (.iload_n 1, 1) := by decide +kernel
theorem dX2_held_25 : decode cX2_held 25 = .ok (.iaload, 1) := by decide +kernel
theorem dX2_held_26 : decode cX2_held 26 = .ok (.goto 4, 3) := by decide +kernel
theorem dX2_held_29 : decode cX2_held 29 = .ok (.iconst 0, 1) := by decide +kernel
theorem dX2_held_30 : decode cX2_held 30 = .ok (.ireturn, 1) := by decide +kernel
theorem dX2_leases_0 : decode cX2_leases 0 = .ok (.aload_n 0, 1) := by decide +kernel
theorem dX2_leases_1 : decode cX2_leases 1 = .ok (.iconst 0, 1) := by decide +kernel
theorem dX2_leases_2 : decode cX2_leases 2 = .ok (.putfield 55, 3) := by decide +kernel
theorem dX2_leases_5 : decode cX2_leases 5 = .ok (.aload_n 0, 1) := by decide +kernel
theorem dX2_leases_6 : decode cX2_leases 6 = .ok (.getfield 59, 3) := by decide +kernel
theorem dX2_leases_9 : decode cX2_leases 9 = .ok (.ireturn, 1) := by decide +kernel
set_option maxRecDepth 20000 in
theorem ggX2_leaseOn_X2_isIn : GoodIn wsX2_leaseOn wsX2_isIn := goodIn_r _ [6] (by decide +kernel) (by decide +kernel)
set_option maxRecDepth 20000 in
theorem gX2_leaseOn_X2_isIn : GoodIn wsX2_leaseOn (va_wsS RX2 62 yX2_isIn wsX2_isIn) := goodIn_app (goodIn_of _ (by decide +kernel)) ggX2_leaseOn_X2_isIn
set_option maxRecDepth 20000 in
theorem ggX2_leaseOn_X2_holds : GoodIn wsX2_leaseOn wsX2_holds := goodIn_r _ [10, 11, 18, 19, 20, 21, 22, 23, 24, 25, 26, 27, 28, 29, 30, 31, 32, 33, 34] (by decide +kernel) (by decide +kernel)
set_option maxRecDepth 20000 in
theorem gX2_leaseOn_X2_holds : GoodIn wsX2_leaseOn (wsV RX2 66 RX2 yX2_holds wsX2_holds) := goodIn_app (goodIn_of _ (by decide +kernel)) ggX2_leaseOn_X2_holds
set_option maxRecDepth 20000 in
theorem ggX2_leaseOn_X2_isDayOf : GoodIn wsX2_leaseOn wsX2_isDayOf := goodIn_r _ [15, 16, 17, 18, 19, 20, 21, 22, 23, 24, 25, 26, 27, 28, 29, 30, 31, 32, 33, 34] (by decide +kernel) (by decide +kernel)
set_option maxRecDepth 20000 in
theorem gX2_leaseOn_X2_isDayOf : GoodIn wsX2_leaseOn (wsV RX2 82 RX2 yX2_isDayOf wsX2_isDayOf) := goodIn_app (goodIn_of _ (by decide +kernel)) ggX2_leaseOn_X2_isDayOf
theorem dX2_leaseOn_0 : decode cX2_leaseOn 0 = .ok (.aload_n 0, 1) := by decide +kernel
theorem dX2_leaseOn_1 : decode cX2_leaseOn 1 = .ok (.iload_n 1, 1) := by decide +kernel
theorem dX2_leaseOn_2 : decode cX2_leaseOn 2 = .ok (.iconst 0, 1) := by decide +kernel
theorem dX2_leaseOn_3 : decode cX2_leaseOn 3 = .ok (.iconst 5, 1) := by decide +kernel
theorem dX2_leaseOn_4 : decode cX2_leaseOn 4 = .ok (.invokestatic 62, 3) := by decide +kernel
theorem dX2_leaseOn_7 : decode cX2_leaseOn 7 = .ok (.ifCond .eq 18, 3) := by decide +kernel
theorem dX2_leaseOn_10 : decode cX2_leaseOn 10 = .ok (.iload_n 2, 1) := by decide +kernel
theorem dX2_leaseOn_11 : decode cX2_leaseOn 11 = .ok (.iconst 0, 1) := by decide +kernel
theorem dX2_leaseOn_12 : decode cX2_leaseOn 12 = .ok (.sipush 7199, 3) := by decide +kernel
theorem dX2_leaseOn_15 : decode cX2_leaseOn 15 = .ok (.invokestatic 62, 3) := by decide +kernel
theorem dX2_leaseOn_18 : decode cX2_leaseOn 18 = .ok (.ifCond .eq 7, 3) := by decide +kernel
theorem dX2_leaseOn_21 : decode cX2_leaseOn 21 = .ok (.iconst 0, 1) := by decide +kernel
theorem dX2_leaseOn_22 : decode cX2_leaseOn 22 = .ok (.goto 4, 3) := by decide +kernel
theorem dX2_leaseOn_25 : decode cX2_leaseOn 25 = .ok (.iconst 1, 1) := by decide +kernel
theorem dX2_leaseOn_26 : decode cX2_leaseOn 26 = .ok (.invokevirtual 66, 3) := by decide +kernel
theorem dX2_leaseOn_29 : decode cX2_leaseOn 29 = .ok (.ifCond .ne 5, 3) := by decide +kernel
theorem dX2_leaseOn_32 : decode cX2_leaseOn 32 = .ok (.iconst 0, 1) := by decide +kernel
theorem dX2_leaseOn_33 : decode cX2_leaseOn 33 = .ok (.ireturn, 1) := by decide +kernel
theorem dX2_leaseOn_34 : decode cX2_leaseOn 34 = .ok (.iconst (-1), 1) := by decide +kernel
theorem dX2_leaseOn_35 : decode cX2_leaseOn 35 = .ok (.istore_n 3, 1) := by decide +kernel
theorem dX2_leaseOn_36 : decode cX2_leaseOn 36 = .ok (.iconst 0, 1) := by decide +kernel
theorem dX2_leaseOn_37 : decode cX2_leaseOn 37 = .ok (.istore 4, 2) := by decide +kernel
theorem dX2_leaseOn_39 : decode cX2_leaseOn 39 = .ok (.iload 4, 2) := by decide +kernel
theorem dX2_leaseOn_41 : decode cX2_leaseOn 41 = .ok (.aload_n 0, 1) := by decide +kernel
theorem dX2_leaseOn_42 : decode cX2_leaseOn 42 = .ok (.getfield 59, 3) := by decide +kernel
theorem dX2_leaseOn_45 : decode cX2_leaseOn 45 = .ok (.if_icmp .ge 37, 3) := by decide +kernel
theorem dX2_leaseOn_48 : decode cX2_leaseOn 48 = .ok (.aload_n 0, 1) := by decide +kernel
theorem dX2_leaseOn_49 : decode cX2_leaseOn 49 = .ok (.getfield 19, 3) := by decide +kernel
theorem dX2_leaseOn_52 : decode cX2_leaseOn 52 = .ok (.iload 4, 2) := by decide +kernel
theorem dX2_leaseOn_54 : decode cX2_leaseOn 54 = .ok (.iaload, 1) := by decide +kernel
theorem dX2_leaseOn_55 : decode cX2_leaseOn 55 = .ok (.iload_n 1, 1) := by decide +kernel
theorem dX2_leaseOn_56 : decode cX2_leaseOn 56 = .ok (.if_icmp .ne 18, 3) := by decide +kernel
theorem dX2_leaseOn_59 : decode cX2_leaseOn 59 = .ok (.aload_n 0, 1) := by decide +kernel
theorem dX2_leaseOn_60 : decode cX2_leaseOn 60 = .ok (.iload 4, 2) := by decide +kernel
theorem dX2_leaseOn_62 : decode cX2_leaseOn 62 = .ok (.iload_n 2, 1) := by decide +kernel
theorem dX2_leaseOn_63 : decode cX2_leaseOn 63 = .ok (.invokevirtual 82, 3) := by decide +kernel
theorem dX2_leaseOn_66 : decode cX2_leaseOn 66 = .ok (.ifCond .eq 8, 3) := by decide +kernel
theorem dX2_leaseOn_69 : decode cX2_leaseOn 69 = .ok (.iload 4, 2) := by decide +kernel
theorem dX2_leaseOn_71 : decode cX2_leaseOn 71 = .ok (.goto 4, 3) := by decide +kernel
theorem dX2_leaseOn_74 : decode cX2_leaseOn 74 = .ok (.iload_n 3, 1) := by decide +kernel
theorem dX2_leaseOn_75 : decode cX2_leaseOn 75 = .ok (.istore_n 3, 1) := by decide +kernel
theorem dX2_leaseOn_76 : decode cX2_leaseOn 76 = .ok (.iinc 4 1, 3) := by decide +kernel
theorem dX2_leaseOn_79 : decode cX2_leaseOn 79 = .ok (.goto (-40), 3) := by decide +kernel
theorem dX2_leaseOn_82 : decode cX2_leaseOn 82 = .ok (.iload_n 3, 1) := by decide +kernel
theorem dX2_leaseOn_83 : decode cX2_leaseOn 83 = .ok (.ireturn, 1) := by decide +kernel
set_option maxRecDepth 20000 in
theorem ggX2_rentOn_X2_isLease : GoodIn wsX2_rentOn wsX2_isLease := goodIn_r _ [5, 6, 7, 8, 4, 9, 40, 41, 42, 43, 44, 45, 46, 47, 48, 49, 50, 51, 52, 53, 54, 55, 56] (by decide +kernel) (by decide +kernel)
set_option maxRecDepth 20000 in
theorem gX2_rentOn_X2_isLease : GoodIn wsX2_rentOn (wsV RX2 75 RX2 yX2_isLease wsX2_isLease) := goodIn_app (goodIn_of _ (by decide +kernel)) ggX2_rentOn_X2_isLease
set_option maxRecDepth 20000 in
theorem ggX2_rentOn_X2_isIn : GoodIn wsX2_rentOn wsX2_isIn := goodIn_r _ [9] (by decide +kernel) (by decide +kernel)
set_option maxRecDepth 20000 in
theorem gX2_rentOn_X2_isIn : GoodIn wsX2_rentOn (va_wsS RX2 62 yX2_isIn wsX2_isIn) := goodIn_app (goodIn_of _ (by decide +kernel)) ggX2_rentOn_X2_isIn
set_option maxRecDepth 20000 in
theorem ggX2_rentOn_X2_holds : GoodIn wsX2_rentOn wsX2_holds := goodIn_r _ [13, 14, 40, 41, 42, 43, 44, 45, 46, 47, 48, 49, 50, 51, 52, 53, 54, 55, 56] (by decide +kernel) (by decide +kernel)
set_option maxRecDepth 20000 in
theorem gX2_rentOn_X2_holds : GoodIn wsX2_rentOn (wsV RX2 66 RX2 yX2_holds wsX2_holds) := goodIn_app (goodIn_of _ (by decide +kernel)) ggX2_rentOn_X2_holds
set_option maxRecDepth 20000 in
theorem ggX2_rentOn_X2_rentAt : GoodIn wsX2_rentOn wsX2_rentAt := goodIn_r _ [18, 19, 20, 21, 22, 23, 24, 4, 25, 26, 27, 28, 29, 30, 31, 32, 33, 34, 35, 36, 37, 38, 39, 40, 41, 42, 43, 44, 45, 46, 47, 48, 49, 50, 51, 52, 53, 54, 55, 56] (by decide +kernel) (by decide +kernel)
set_option maxRecDepth 20000 in
theorem gX2_rentOn_X2_rentAt : GoodIn wsX2_rentOn (wsV RX2 92 RX2 yX2_rentAt wsX2_rentAt) := goodIn_app (goodIn_of _ (by decide +kernel)) ggX2_rentOn_X2_rentAt
theorem dX2_rentOn_0 : decode cX2_rentOn 0 = .ok (.aload_n 0, 1) := by decide +kernel
theorem dX2_rentOn_1 : decode cX2_rentOn 1 = .ok (.aload_n 0, 1) := by decide +kernel
theorem dX2_rentOn_2 : decode cX2_rentOn 2 = .ok (.iload_n 1, 1) := by decide +kernel
theorem dX2_rentOn_3 : decode cX2_rentOn 3 = .ok (.invokevirtual 75, 3) := by decide +kernel
theorem dX2_rentOn_6 : decode cX2_rentOn 6 = .ok (.ifCond .eq 18, 3) := by decide +kernel
theorem dX2_rentOn_9 : decode cX2_rentOn 9 = .ok (.iload_n 2, 1) := by decide +kernel
theorem dX2_rentOn_10 : decode cX2_rentOn 10 = .ok (.iconst 0, 1) := by decide +kernel
theorem dX2_rentOn_11 : decode cX2_rentOn 11 = .ok (.sipush 7199, 3) := by decide +kernel
theorem dX2_rentOn_14 : decode cX2_rentOn 14 = .ok (.invokestatic 62, 3) := by decide +kernel
theorem dX2_rentOn_17 : decode cX2_rentOn 17 = .ok (.ifCond .eq 7, 3) := by decide +kernel
theorem dX2_rentOn_20 : decode cX2_rentOn 20 = .ok (.iconst 0, 1) := by decide +kernel
theorem dX2_rentOn_21 : decode cX2_rentOn 21 = .ok (.goto 4, 3) := by decide +kernel
theorem dX2_rentOn_24 : decode cX2_rentOn 24 = .ok (.iconst 1, 1) := by decide +kernel
theorem dX2_rentOn_25 : decode cX2_rentOn 25 = .ok (.invokevirtual 66, 3) := by decide +kernel
theorem dX2_rentOn_28 : decode cX2_rentOn 28 = .ok (.ifCond .eq 12, 3) := by decide +kernel
theorem dX2_rentOn_31 : decode cX2_rentOn 31 = .ok (.aload_n 0, 1) := by decide +kernel
theorem dX2_rentOn_32 : decode cX2_rentOn 32 = .ok (.iload_n 1, 1) := by decide +kernel
theorem dX2_rentOn_33 : decode cX2_rentOn 33 = .ok (.iload_n 2, 1) := by decide +kernel
theorem dX2_rentOn_34 : decode cX2_rentOn 34 = .ok (.invokevirtual 92, 3) := by decide +kernel
theorem dX2_rentOn_37 : decode cX2_rentOn 37 = .ok (.goto 4, 3) := by decide +kernel
theorem dX2_rentOn_40 : decode cX2_rentOn 40 = .ok (.iconst 0, 1) := by decide +kernel
theorem dX2_rentOn_41 : decode cX2_rentOn 41 = .ok (.ireturn, 1) := by decide +kernel
set_option maxRecDepth 20000 in
theorem ggX2_bill_X2_isLease : GoodIn wsX2_bill wsX2_isLease := goodIn_r _ [5, 6, 7, 8, 4, 9, 44, 45, 46, 47, 48, 49, 50, 51, 52, 53, 54, 55, 56, 57, 58, 59, 60] (by decide +kernel) (by decide +kernel)
set_option maxRecDepth 20000 in
theorem gX2_bill_X2_isLease : GoodIn wsX2_bill (wsV RX2 75 RX2 yX2_isLease wsX2_isLease) := goodIn_app (goodIn_of _ (by decide +kernel)) ggX2_bill_X2_isLease
set_option maxRecDepth 20000 in
theorem ggX2_bill_X2_isIn : GoodIn wsX2_bill wsX2_isIn := goodIn_r _ [9] (by decide +kernel) (by decide +kernel)
set_option maxRecDepth 20000 in
theorem gX2_bill_X2_isIn : GoodIn wsX2_bill (va_wsS RX2 62 yX2_isIn wsX2_isIn) := goodIn_app (goodIn_of _ (by decide +kernel)) ggX2_bill_X2_isIn
set_option maxRecDepth 20000 in
theorem ggX2_bill_X2_holds : GoodIn wsX2_bill wsX2_holds := goodIn_r _ [13, 14, 44, 45, 46, 47, 48, 49, 50, 51, 52, 53, 54, 55, 56, 57, 58, 59, 60] (by decide +kernel) (by decide +kernel)
set_option maxRecDepth 20000 in
theorem gX2_bill_X2_holds : GoodIn wsX2_bill (wsV RX2 66 RX2 yX2_holds wsX2_holds) := goodIn_app (goodIn_of _ (by decide +kernel)) ggX2_bill_X2_holds
set_option maxRecDepth 20000 in
theorem ggX2_bill_X2_billOf : GoodIn wsX2_bill wsX2_billOf := goodIn_r _ [18, 19, 20, 21, 4, 22, 23, 24, 25, 26, 27, 28, 29, 30, 31, 32, 33, 34, 35, 36, 37, 38, 39, 40, 41, 42, 43, 44, 45, 46, 47, 48, 49, 50, 51, 52, 53, 54, 55, 56, 57, 58, 59, 60] (by decide +kernel) (by decide +kernel)
set_option maxRecDepth 20000 in
theorem gX2_bill_X2_billOf : GoodIn wsX2_bill (wsV RX2 95 RX2 yX2_billOf wsX2_billOf) := goodIn_app (goodIn_of _ (by decide +kernel)) ggX2_bill_X2_billOf
theorem dX2_bill_0 : decode cX2_bill 0 = .ok (.aload_n 0, 1) := by decide +kernel
theorem dX2_bill_1 : decode cX2_bill 1 = .ok (.aload_n 0, 1) := by decide +kernel
theorem dX2_bill_2 : decode cX2_bill 2 = .ok (.iload_n 1, 1) := by decide +kernel
theorem dX2_bill_3 : decode cX2_bill 3 = .ok (.invokevirtual 75, 3) := by decide +kernel
theorem dX2_bill_6 : decode cX2_bill 6 = .ok (.ifCond .eq 18, 3) := by decide +kernel
theorem dX2_bill_9 : decode cX2_bill 9 = .ok (.iload_n 2, 1) := by decide +kernel
theorem dX2_bill_10 : decode cX2_bill 10 = .ok (.iconst 0, 1) := by decide +kernel
theorem dX2_bill_11 : decode cX2_bill 11 = .ok (.sipush 239, 3) := by decide +kernel
theorem dX2_bill_14 : decode cX2_bill 14 = .ok (.invokestatic 62, 3) := by decide +kernel
theorem dX2_bill_17 : decode cX2_bill 17 = .ok (.ifCond .eq 7, 3) := by decide +kernel
theorem dX2_bill_20 : decode cX2_bill 20 = .ok (.iconst 0, 1) := by decide +kernel
theorem dX2_bill_21 : decode cX2_bill 21 = .ok (.goto 4, 3) := by decide +kernel
theorem dX2_bill_24 : decode cX2_bill 24 = .ok (.iconst 1, 1) := by decide +kernel
theorem dX2_bill_25 : decode cX2_bill 25 = .ok (.invokevirtual 66, 3) := by decide +kernel
theorem dX2_bill_28 : decode cX2_bill 28 = .ok (.ifCond .eq 12, 3) := by decide +kernel
theorem dX2_bill_31 : decode cX2_bill 31 = .ok (.aload_n 0, 1) := by decide +kernel
theorem dX2_bill_32 : decode cX2_bill 32 = .ok (.iload_n 1, 1) := by decide +kernel
theorem dX2_bill_33 : decode cX2_bill 33 = .ok (.iload_n 2, 1) := by decide +kernel
theorem dX2_bill_34 : decode cX2_bill 34 = .ok (.invokevirtual 95, 3) := by decide +kernel
theorem dX2_bill_37 : decode cX2_bill 37 = .ok (.goto 4, 3) := by decide +kernel
theorem dX2_bill_40 : decode cX2_bill 40 = .ok (.iconst 0, 1) := by decide +kernel
theorem dX2_bill_41 : decode cX2_bill 41 = .ok (.ireturn, 1) := by decide +kernel
set_option maxRecDepth 20000 in
theorem ggX2_billByDays_X2_isLease : GoodIn wsX2_billByDays wsX2_isLease := goodIn_r _ [5, 6, 7, 8, 4, 9, 44, 45, 46, 47, 48, 49, 50, 51, 52, 53, 54, 55, 56, 57, 58, 59, 60] (by decide +kernel) (by decide +kernel)
set_option maxRecDepth 20000 in
theorem gX2_billByDays_X2_isLease : GoodIn wsX2_billByDays (wsV RX2 75 RX2 yX2_isLease wsX2_isLease) := goodIn_app (goodIn_of _ (by decide +kernel)) ggX2_billByDays_X2_isLease
set_option maxRecDepth 20000 in
theorem ggX2_billByDays_X2_isIn : GoodIn wsX2_billByDays wsX2_isIn := goodIn_r _ [9] (by decide +kernel) (by decide +kernel)
set_option maxRecDepth 20000 in
theorem gX2_billByDays_X2_isIn : GoodIn wsX2_billByDays (va_wsS RX2 62 yX2_isIn wsX2_isIn) := goodIn_app (goodIn_of _ (by decide +kernel)) ggX2_billByDays_X2_isIn
set_option maxRecDepth 20000 in
theorem ggX2_billByDays_X2_holds : GoodIn wsX2_billByDays wsX2_holds := goodIn_r _ [13, 14, 44, 45, 46, 47, 48, 49, 50, 51, 52, 53, 54, 55, 56, 57, 58, 59, 60] (by decide +kernel) (by decide +kernel)
set_option maxRecDepth 20000 in
theorem gX2_billByDays_X2_holds : GoodIn wsX2_billByDays (wsV RX2 66 RX2 yX2_holds wsX2_holds) := goodIn_app (goodIn_of _ (by decide +kernel)) ggX2_billByDays_X2_holds
set_option maxRecDepth 20000 in
theorem ggX2_billByDays_X2_billOf : GoodIn wsX2_billByDays wsX2_billOf := goodIn_r _ [18, 19, 20, 21, 4, 22, 23, 24, 25, 26, 27, 28, 29, 30, 31, 32, 33, 34, 35, 36, 37, 38, 39, 40, 41, 42, 43, 44, 45, 46, 47, 48, 49, 50, 51, 52, 53, 54, 55, 56, 57, 58, 59, 60] (by decide +kernel) (by decide +kernel)
set_option maxRecDepth 20000 in
theorem gX2_billByDays_X2_billOf : GoodIn wsX2_billByDays (wsV RX2 95 RX2 yX2_billOf wsX2_billOf) := goodIn_app (goodIn_of _ (by decide +kernel)) ggX2_billByDays_X2_billOf
theorem dX2_billByDays_0 : decode cX2_billByDays 0 = .ok (.aload_n 0, 1) := by decide +kernel
theorem dX2_billByDays_1 : decode cX2_billByDays 1 = .ok (.aload_n 0, 1) := by decide +kernel
theorem dX2_billByDays_2 : decode cX2_billByDays 2 = .ok (.iload_n 1, 1) := by decide +kernel
theorem dX2_billByDays_3 : decode cX2_billByDays 3 = .ok (.invokevirtual 75, 3) := by decide +kernel
theorem dX2_billByDays_6 : decode cX2_billByDays 6 = .ok (.ifCond .eq 18, 3) := by decide +kernel
theorem dX2_billByDays_9 : decode cX2_billByDays 9 = .ok (.iload_n 2, 1) := by decide +kernel
theorem dX2_billByDays_10 : decode cX2_billByDays 10 = .ok (.iconst 0, 1) := by decide +kernel
theorem dX2_billByDays_11 : decode cX2_billByDays 11 = .ok (.sipush 239, 3) := by decide +kernel
theorem dX2_billByDays_14 : decode cX2_billByDays 14 = .ok (.invokestatic 62, 3) := by decide +kernel
theorem dX2_billByDays_17 : decode cX2_billByDays 17 = .ok (.ifCond .eq 7, 3) := by decide +kernel
theorem dX2_billByDays_20 : decode cX2_billByDays 20 = .ok (.iconst 0, 1) := by decide +kernel
theorem dX2_billByDays_21 : decode cX2_billByDays 21 = .ok (.goto 4, 3) := by decide +kernel
theorem dX2_billByDays_24 : decode cX2_billByDays 24 = .ok (.iconst 1, 1) := by decide +kernel
theorem dX2_billByDays_25 : decode cX2_billByDays 25 = .ok (.invokevirtual 66, 3) := by decide +kernel
theorem dX2_billByDays_28 : decode cX2_billByDays 28 = .ok (.ifCond .eq 12, 3) := by decide +kernel
theorem dX2_billByDays_31 : decode cX2_billByDays 31 = .ok (.aload_n 0, 1) := by decide +kernel
theorem dX2_billByDays_32 : decode cX2_billByDays 32 = .ok (.iload_n 1, 1) := by decide +kernel
theorem dX2_billByDays_33 : decode cX2_billByDays 33 = .ok (.iload_n 2, 1) := by decide +kernel
theorem dX2_billByDays_34 : decode cX2_billByDays 34 = .ok (.invokevirtual 95, 3) := by decide +kernel
theorem dX2_billByDays_37 : decode cX2_billByDays 37 = .ok (.goto 4, 3) := by decide +kernel
theorem dX2_billByDays_40 : decode cX2_billByDays 40 = .ok (.iconst 0, 1) := by decide +kernel
theorem dX2_billByDays_41 : decode cX2_billByDays 41 = .ok (.ireturn, 1) := by decide +kernel
set_option maxRecDepth 20000 in
theorem ggX2_bills_X2_isLease : GoodIn wsX2_bills wsX2_isLease := goodIn_r _ [5, 6, 7, 8, 4, 9, 44, 45, 46, 47, 48, 49, 50, 51, 52, 53, 54, 55, 56, 57, 58, 59, 60] (by decide +kernel) (by decide +kernel)
set_option maxRecDepth 20000 in
theorem gX2_bills_X2_isLease : GoodIn wsX2_bills (wsV RX2 75 RX2 yX2_isLease wsX2_isLease) := goodIn_app (goodIn_of _ (by decide +kernel)) ggX2_bills_X2_isLease
set_option maxRecDepth 20000 in
theorem ggX2_bills_X2_isIn : GoodIn wsX2_bills wsX2_isIn := goodIn_r _ [9] (by decide +kernel) (by decide +kernel)
set_option maxRecDepth 20000 in
theorem gX2_bills_X2_isIn : GoodIn wsX2_bills (va_wsS RX2 62 yX2_isIn wsX2_isIn) := goodIn_app (goodIn_of _ (by decide +kernel)) ggX2_bills_X2_isIn
set_option maxRecDepth 20000 in
theorem ggX2_bills_X2_holds : GoodIn wsX2_bills wsX2_holds := goodIn_r _ [13, 14, 44, 45, 46, 47, 48, 49, 50, 51, 52, 53, 54, 55, 56, 57, 58, 59, 60] (by decide +kernel) (by decide +kernel)
set_option maxRecDepth 20000 in
theorem gX2_bills_X2_holds : GoodIn wsX2_bills (wsV RX2 66 RX2 yX2_holds wsX2_holds) := goodIn_app (goodIn_of _ (by decide +kernel)) ggX2_bills_X2_holds
set_option maxRecDepth 20000 in
theorem ggX2_bills_X2_billOf : GoodIn wsX2_bills wsX2_billOf := goodIn_r _ [18, 19, 20, 21, 4, 22, 23, 24, 25, 26, 27, 28, 29, 30, 31, 32, 33, 34, 35, 36, 37, 38, 39, 40, 41, 42, 43, 44, 45, 46, 47, 48, 49, 50, 51, 52, 53, 54, 55, 56, 57, 58, 59, 60] (by decide +kernel) (by decide +kernel)
set_option maxRecDepth 20000 in
theorem gX2_bills_X2_billOf : GoodIn wsX2_bills (wsV RX2 95 RX2 yX2_billOf wsX2_billOf) := goodIn_app (goodIn_of _ (by decide +kernel)) ggX2_bills_X2_billOf
theorem dX2_bills_0 : decode cX2_bills 0 = .ok (.aload_n 0, 1) := by decide +kernel
theorem dX2_bills_1 : decode cX2_bills 1 = .ok (.iload_n 1, 1) := by decide +kernel
theorem dX2_bills_2 : decode cX2_bills 2 = .ok (.invokevirtual 75, 3) := by decide +kernel
theorem dX2_bills_5 : decode cX2_bills 5 = .ok (.ifCond .eq 29, 3) := by decide +kernel
theorem dX2_bills_8 : decode cX2_bills 8 = .ok (.iload_n 2, 1) := by decide +kernel
theorem dX2_bills_9 : decode cX2_bills 9 = .ok (.iconst 0, 1) := by decide +kernel
theorem dX2_bills_10 : decode cX2_bills 10 = .ok (.sipush 239, 3) := by decide +kernel
theorem dX2_bills_13 : decode cX2_bills 13 = .ok (.invokestatic 62, 3) := by decide +kernel
theorem dX2_bills_16 : decode cX2_bills 16 = .ok (.ifCond .eq 18, 3) := by decide +kernel
theorem dX2_bills_19 : decode cX2_bills 19 = .ok (.iload_n 3, 1) := by decide +kernel
theorem dX2_bills_20 : decode cX2_bills 20 = .ok (.iconst 0, 1) := by decide +kernel
theorem dX2_bills_21 : decode cX2_bills 21 = .ok (.sipush 239, 3) := by decide +kernel
theorem dX2_bills_24 : decode cX2_bills 24 = .ok (.invokestatic 62, 3) := by decide +kernel
theorem dX2_bills_27 : decode cX2_bills 27 = .ok (.ifCond .eq 7, 3) := by decide +kernel
theorem dX2_bills_30 : decode cX2_bills 30 = .ok (.iconst 1, 1) := by decide +kernel
theorem dX2_bills_31 : decode cX2_bills 31 = .ok (.goto 4, 3) := by decide +kernel
theorem dX2_bills_34 : decode cX2_bills 34 = .ok (.iconst 0, 1) := by decide +kernel
theorem dX2_bills_35 : decode cX2_bills 35 = .ok (.istore 4, 2) := by decide +kernel
theorem dX2_bills_37 : decode cX2_bills 37 = .ok (.aload_n 0, 1) := by decide +kernel
theorem dX2_bills_38 : decode cX2_bills 38 = .ok (.iload 4, 2) := by decide +kernel
theorem dX2_bills_40 : decode cX2_bills 40 = .ok (.ifCond .ne 7, 3) := by decide +kernel
theorem dX2_bills_43 : decode cX2_bills 43 = .ok (.iconst 1, 1) := by decide +kernel
theorem dX2_bills_44 : decode cX2_bills 44 = .ok (.goto 13, 3) := by decide +kernel
theorem dX2_bills_47 : decode cX2_bills 47 = .ok (.iload_n 3, 1) := by decide +kernel
theorem dX2_bills_48 : decode cX2_bills 48 = .ok (.iload_n 2, 1) := by decide +kernel
theorem dX2_bills_49 : decode cX2_bills 49 = .ok (.if_icmp .ge 7, 3) := by decide +kernel
theorem dX2_bills_52 : decode cX2_bills 52 = .ok (.iconst 2, 1) := by decide +kernel
theorem dX2_bills_53 : decode cX2_bills 53 = .ok (.goto 4, 3) := by decide +kernel
theorem dX2_bills_56 : decode cX2_bills 56 = .ok (.iconst 0, 1) := by decide +kernel
theorem dX2_bills_57 : decode cX2_bills 57 = .ok (.invokevirtual 66, 3) := by decide +kernel
theorem dX2_bills_60 : decode cX2_bills 60 = .ok (.ifCond .ne 5, 3) := by decide +kernel
theorem dX2_bills_63 : decode cX2_bills 63 = .ok (.lconst 0, 1) := by decide +kernel
theorem dX2_bills_64 : decode cX2_bills 64 = .ok (.lreturn, 1) := by decide +kernel
theorem dX2_bills_65 : decode cX2_bills 65 = .ok (.lconst 0, 1) := by decide +kernel
theorem dX2_bills_66 : decode cX2_bills 66 = .ok (.lstore 5, 2) := by decide +kernel
theorem dX2_bills_68 : decode cX2_bills 68 = .ok (.iload_n 2, 1) := by decide +kernel
theorem dX2_bills_69 : decode cX2_bills 69 = .ok (.istore 7, 2) := by decide +kernel
theorem dX2_bills_71 : decode cX2_bills 71 = .ok (.iload 7, 2) := by decide +kernel
theorem dX2_bills_73 : decode cX2_bills 73 = .ok (.iload_n 3, 1) := by decide +kernel
theorem dX2_bills_74 : decode cX2_bills 74 = .ok (.if_icmp .gt 22, 3) := by decide +kernel
theorem dX2_bills_77 : decode cX2_bills 77 = .ok (.lload 5, 2) := by decide +kernel
theorem dX2_bills_79 : decode cX2_bills 79 = .ok (.aload_n 0, 1) := by decide +kernel
theorem dX2_bills_80 : decode cX2_bills 80 = .ok (.iload_n 1, 1) := by decide +kernel
theorem dX2_bills_81 : decode cX2_bills 81 = .ok (.iload 7, 2) := by decide +kernel
theorem dX2_bills_83 : decode cX2_bills 83 = .ok (.invokevirtual 95, 3) := by decide +kernel
theorem dX2_bills_86 : decode cX2_bills 86 = .ok (.i2l, 1) := by decide +kernel
theorem dX2_bills_87 : decode cX2_bills 87 = .ok (.ladd, 1) := by decide +kernel
theorem dX2_bills_88 : decode cX2_bills 88 = .ok (.lstore 5, 2) := by decide +kernel
theorem dX2_bills_90 : decode cX2_bills 90 = .ok (.iinc 7 1, 3) := by decide +kernel
theorem dX2_bills_93 : decode cX2_bills 93 = .ok (.goto (-22), 3) := by decide +kernel
theorem dX2_bills_96 : decode cX2_bills 96 = .ok (.lload 5, 2) := by decide +kernel
theorem dX2_bills_98 : decode cX2_bills 98 = .ok (.lreturn, 1) := by decide +kernel
set_option maxRecDepth 20000 in
theorem ggX2_nextChange_X2_isLease : GoodIn wsX2_nextChange wsX2_isLease := goodIn_r _ [6, 7, 8, 9, 5, 10, 40, 41, 42, 43, 44, 45, 46, 47, 48, 49, 50, 51, 52, 53, 54, 55, 56] (by decide +kernel) (by decide +kernel)
set_option maxRecDepth 20000 in
theorem gX2_nextChange_X2_isLease : GoodIn wsX2_nextChange (wsV RX2 75 RX2 yX2_isLease wsX2_isLease) := goodIn_app (goodIn_of _ (by decide +kernel)) ggX2_nextChange_X2_isLease
set_option maxRecDepth 20000 in
theorem ggX2_nextChange_X2_isIn : GoodIn wsX2_nextChange wsX2_isIn := goodIn_r _ [10] (by decide +kernel) (by decide +kernel)
set_option maxRecDepth 20000 in
theorem gX2_nextChange_X2_isIn : GoodIn wsX2_nextChange (va_wsS RX2 62 yX2_isIn wsX2_isIn) := goodIn_app (goodIn_of _ (by decide +kernel)) ggX2_nextChange_X2_isIn
set_option maxRecDepth 20000 in
theorem ggX2_nextChange_X2_holds : GoodIn wsX2_nextChange wsX2_holds := goodIn_r _ [14, 15, 40, 41, 42, 43, 44, 45, 46, 47, 48, 49, 50, 51, 52, 53, 54, 55, 56] (by decide +kernel) (by decide +kernel)
set_option maxRecDepth 20000 in
theorem gX2_nextChange_X2_holds : GoodIn wsX2_nextChange (wsV RX2 66 RX2 yX2_holds wsX2_holds) := goodIn_app (goodIn_of _ (by decide +kernel)) ggX2_nextChange_X2_holds
set_option maxRecDepth 20000 in
theorem ggX2_nextChange_X2_rentAt : GoodIn wsX2_nextChange wsX2_rentAt := goodIn_r _ [19, 20, 21, 22, 23, 24, 25, 5, 26, 1, 27, 28, 29, 30, 31, 32, 33, 34, 35, 36, 37, 38, 39, 40, 41, 42, 43, 44, 45, 46, 47, 48, 49, 50, 51, 52, 53, 54, 55, 56] (by decide +kernel) (by decide +kernel)
set_option maxRecDepth 20000 in
theorem gX2_nextChange_X2_rentAt : GoodIn wsX2_nextChange (wsV RX2 92 RX2 yX2_rentAt wsX2_rentAt) := goodIn_app (goodIn_of _ (by decide +kernel)) ggX2_nextChange_X2_rentAt
theorem dX2_nextChange_0 : decode cX2_nextChange 0 = .ok (.aload_n 0, 1) := by decide +kernel
theorem dX2_nextChange_1 : decode cX2_nextChange 1 = .ok (.aload_n 0, 1) := by decide +kernel
theorem dX2_nextChange_2 : decode cX2_nextChange 2 = .ok (.iload_n 1, 1) := by decide +kernel
theorem dX2_nextChange_3 : decode cX2_nextChange 3 = .ok (.invokevirtual 75, 3) := by decide +kernel
theorem dX2_nextChange_6 : decode cX2_nextChange 6 = .ok (.ifCond .eq 18, 3) := by decide +kernel
theorem dX2_nextChange_9 : decode cX2_nextChange 9 = .ok (.iload_n 2, 1) := by decide +kernel
theorem dX2_nextChange_10 : decode cX2_nextChange 10 = .ok (.iconst 0, 1) := by decide +kernel
theorem dX2_nextChange_11 : decode cX2_nextChange 11 = .ok (.sipush 7199, 3) := by decide +kernel
theorem dX2_nextChange_14 : decode cX2_nextChange 14 = .ok (.invokestatic 62, 3) := by decide +kernel
theorem dX2_nextChange_17 : decode cX2_nextChange 17 = .ok (.ifCond .eq 7, 3) := by decide +kernel
theorem dX2_nextChange_20 : decode cX2_nextChange 20 = .ok (.iconst 0, 1) := by decide +kernel
theorem dX2_nextChange_21 : decode cX2_nextChange 21 = .ok (.goto 4, 3) := by decide +kernel
theorem dX2_nextChange_24 : decode cX2_nextChange 24 = .ok (.iconst 1, 1) := by decide +kernel
theorem dX2_nextChange_25 : decode cX2_nextChange 25 = .ok (.invokevirtual 66, 3) := by decide +kernel
theorem dX2_nextChange_28 : decode cX2_nextChange 28 = .ok (.ifCond .ne 5, 3) := by decide +kernel
theorem dX2_nextChange_31 : decode cX2_nextChange 31 = .ok (.iconst 0, 1) := by decide +kernel
theorem dX2_nextChange_32 : decode cX2_nextChange 32 = .ok (.ireturn, 1) := by decide +kernel
theorem dX2_nextChange_33 : decode cX2_nextChange 33 = .ok (.aload_n 0, 1) := by decide +kernel
theorem dX2_nextChange_34 : decode cX2_nextChange 34 = .ok (.iload_n 1, 1) := by decide +kernel
theorem dX2_nextChange_35 : decode cX2_nextChange 35 = .ok (.iload_n 2, 1) := by decide +kernel
theorem dX2_nextChange_36 : decode cX2_nextChange 36 = .ok (.invokevirtual 92, 3) := by decide +kernel
theorem dX2_nextChange_39 : decode cX2_nextChange 39 = .ok (.istore_n 3, 1) := by decide +kernel
theorem dX2_nextChange_40 : decode cX2_nextChange 40 = .ok (.iload_n 2, 1) := by decide +kernel
theorem dX2_nextChange_41 : decode cX2_nextChange 41 = .ok (.iconst 1, 1) := by decide +kernel
theorem dX2_nextChange_42 : decode cX2_nextChange 42 = .ok (.iadd, 1) := by decide +kernel
theorem dX2_nextChange_43 : decode cX2_nextChange 43 = .ok (.istore 4, 2) := by decide +kernel
theorem dX2_nextChange_45 : decode cX2_nextChange 45 = .ok (.iload 4, 2) := by decide +kernel
theorem dX2_nextChange_47 : decode cX2_nextChange 47 = .ok (.sipush 7200, 3) := by decide +kernel
theorem dX2_nextChange_50 : decode cX2_nextChange 50 = .ok (.if_icmp .ge 38, 3) := by decide +kernel
theorem dX2_nextChange_53 : decode cX2_nextChange 53 = .ok (.iload 4, 2) := by decide +kernel
theorem dX2_nextChange_55 : decode cX2_nextChange 55 = .ok (.aload_n 0, 1) := by decide +kernel
theorem dX2_nextChange_56 : decode cX2_nextChange 56 = .ok (.getfield 25, 3) := by decide +kernel
theorem dX2_nextChange_59 : decode cX2_nextChange 59 = .ok (.iload_n 1, 1) := by decide +kernel
theorem dX2_nextChange_60 : decode cX2_nextChange 60 = .ok (.iaload, 1) := by decide +kernel
theorem dX2_nextChange_61 : decode cX2_nextChange 61 = .ok (.if_icmp .gt 27, 3) := by decide +kernel
theorem dX2_nextChange_64 : decode cX2_nextChange 64 = .ok (.aload_n 0, 1) := by decide +kernel
theorem dX2_nextChange_65 : decode cX2_nextChange 65 = .ok (.iload_n 1, 1) := by decide +kernel
theorem dX2_nextChange_66 : decode cX2_nextChange 66 = .ok (.iload 4, 2) := by decide +kernel
theorem dX2_nextChange_68 : decode cX2_nextChange 68 = .ok (.invokevirtual 92, 3) := by decide +kernel
theorem dX2_nextChange_71 : decode cX2_nextChange 71 = .ok (.istore 5, 2) := by decide +kernel
theorem dX2_nextChange_73 : decode cX2_nextChange 73 = .ok (.iload 5, 2) := by decide +kernel
theorem dX2_nextChange_75 : decode cX2_nextChange 75 = .ok (.iload_n 3, 1) := by decide +kernel
theorem dX2_nextChange_76 : decode cX2_nextChange 76 = .ok (.if_icmp .eq 6, 3) := by decide +kernel
theorem dX2_nextChange_79 : decode cX2_nextChange 79 = .ok (.iload 4, 2) := by decide +kernel
theorem dX2_nextChange_81 : decode cX2_nextChange 81 = .ok (.ireturn, 1) := by decide +kernel
theorem dX2_nextChange_82 : decode cX2_nextChange 82 = .ok (.iinc 4 1, 3) := by decide +kernel
theorem dX2_nextChange_85 : decode cX2_nextChange 85 = .ok (.goto (-40), 3) := by decide +kernel
theorem dX2_nextChange_88 : decode cX2_nextChange 88 = .ok (.iconst (-1), 1) := by decide +kernel
theorem dX2_nextChange_89 : decode cX2_nextChange 89 = .ok (.ireturn, 1) := by decide +kernel
theorem dX2_daysIn_0 : decode cX2_daysIn 0 = .ok (.aload_n 0, 1) := by decide +kernel
theorem dX2_daysIn_1 : decode cX2_daysIn 1 = .ok (.getfield 22, 3) := by decide +kernel
theorem dX2_daysIn_4 : decode cX2_daysIn 4 = .ok (.iload_n 1, 1) := by decide +kernel
theorem dX2_daysIn_5 : decode cX2_daysIn 5 = .ok (.iaload, 1) := by decide +kernel
theorem dX2_daysIn_6 : decode cX2_daysIn 6 = .ok (.sipush 360, 3) := by decide +kernel
theorem dX2_daysIn_9 : decode cX2_daysIn 9 = .ok (.iload_n 2, 1) := by decide +kernel
theorem dX2_daysIn_10 : decode cX2_daysIn 10 = .ok (.imul, 1) := by decide +kernel
theorem dX2_daysIn_11 : decode cX2_daysIn 11 = .ok (.if_icmp .le 12, 3) := by decide +kernel
theorem dX2_daysIn_14 : decode cX2_daysIn 14 = .ok (.aload_n 0, 1) := by decide +kernel
theorem dX2_daysIn_15 : decode cX2_daysIn 15 = .ok (.getfield 22, 3) := by decide +kernel
theorem dX2_daysIn_18 : decode cX2_daysIn 18 = .ok (.iload_n 1, 1) := by decide +kernel
theorem dX2_daysIn_19 : decode cX2_daysIn 19 = .ok (.iaload, 1) := by decide +kernel
theorem dX2_daysIn_20 : decode cX2_daysIn 20 = .ok (.goto 8, 3) := by decide +kernel
theorem dX2_daysIn_23 : decode cX2_daysIn 23 = .ok (.sipush 360, 3) := by decide +kernel
theorem dX2_daysIn_26 : decode cX2_daysIn 26 = .ok (.iload_n 2, 1) := by decide +kernel
theorem dX2_daysIn_27 : decode cX2_daysIn 27 = .ok (.imul, 1) := by decide +kernel
theorem dX2_daysIn_28 : decode cX2_daysIn 28 = .ok (.istore_n 3, 1) := by decide +kernel
theorem dX2_daysIn_29 : decode cX2_daysIn 29 = .ok (.aload_n 0, 1) := by decide +kernel
theorem dX2_daysIn_30 : decode cX2_daysIn 30 = .ok (.getfield 25, 3) := by decide +kernel
theorem dX2_daysIn_33 : decode cX2_daysIn 33 = .ok (.iload_n 1, 1) := by decide +kernel
theorem dX2_daysIn_34 : decode cX2_daysIn 34 = .ok (.iaload, 1) := by decide +kernel
theorem dX2_daysIn_35 : decode cX2_daysIn 35 = .ok (.sipush 360, 3) := by decide +kernel
theorem dX2_daysIn_38 : decode cX2_daysIn 38 = .ok (.iload_n 2, 1) := by decide +kernel
theorem dX2_daysIn_39 : decode cX2_daysIn 39 = .ok (.imul, 1) := by decide +kernel
theorem dX2_daysIn_40 : decode cX2_daysIn 40 = .ok (.sipush 360, 3) := by decide +kernel
theorem dX2_daysIn_43 : decode cX2_daysIn 43 = .ok (.iadd, 1) := by decide +kernel
theorem dX2_daysIn_44 : decode cX2_daysIn 44 = .ok (.if_icmp .ge 12, 3) := by decide +kernel
theorem dX2_daysIn_47 : decode cX2_daysIn 47 = .ok (.aload_n 0, 1) := by decide +kernel
theorem dX2_daysIn_48 : decode cX2_daysIn 48 = .ok (.getfield 25, 3) := by decide +kernel
theorem dX2_daysIn_51 : decode cX2_daysIn 51 = .ok (.iload_n 1, 1) := by decide +kernel
theorem dX2_daysIn_52 : decode cX2_daysIn 52 = .ok (.iaload, 1) := by decide +kernel
theorem dX2_daysIn_53 : decode cX2_daysIn 53 = .ok (.goto 12, 3) := by decide +kernel
theorem dX2_daysIn_56 : decode cX2_daysIn 56 = .ok (.sipush 360, 3) := by decide +kernel
theorem dX2_daysIn_59 : decode cX2_daysIn 59 = .ok (.iload_n 2, 1) := by decide +kernel
theorem dX2_daysIn_60 : decode cX2_daysIn 60 = .ok (.imul, 1) := by decide +kernel
theorem dX2_daysIn_61 : decode cX2_daysIn 61 = .ok (.sipush 360, 3) := by decide +kernel
theorem dX2_daysIn_64 : decode cX2_daysIn 64 = .ok (.iadd, 1) := by decide +kernel
theorem dX2_daysIn_65 : decode cX2_daysIn 65 = .ok (.istore 4, 2) := by decide +kernel
theorem dX2_daysIn_67 : decode cX2_daysIn 67 = .ok (.iload 4, 2) := by decide +kernel
theorem dX2_daysIn_69 : decode cX2_daysIn 69 = .ok (.iload_n 3, 1) := by decide +kernel
theorem dX2_daysIn_70 : decode cX2_daysIn 70 = .ok (.if_icmp .le 10, 3) := by decide +kernel
theorem dX2_daysIn_73 : decode cX2_daysIn 73 = .ok (.iload 4, 2) := by decide +kernel
theorem dX2_daysIn_75 : decode cX2_daysIn 75 = .ok (.iload_n 3, 1) := by decide +kernel
theorem dX2_daysIn_76 : decode cX2_daysIn 76 = .ok (.isub, 1) := by decide +kernel
theorem dX2_daysIn_77 : decode cX2_daysIn 77 = .ok (.goto 4, 3) := by decide +kernel
theorem dX2_daysIn_80 : decode cX2_daysIn 80 = .ok (.iconst 0, 1) := by decide +kernel
theorem dX2_daysIn_81 : decode cX2_daysIn 81 = .ok (.ireturn, 1) := by decide +kernel
theorem dX2_allAreas_0 : decode cX2_allAreas 0 = .ok (.iconst 0, 1) := by decide +kernel
theorem dX2_allAreas_1 : decode cX2_allAreas 1 = .ok (.istore_n 1, 1) := by decide +kernel
theorem dX2_allAreas_2 : decode cX2_allAreas 2 = .ok (.iconst 0, 1) := by decide +kernel
theorem dX2_allAreas_3 : decode cX2_allAreas 3 = .ok (.istore_n 2, 1) := by decide +kernel
theorem dX2_allAreas_4 : decode cX2_allAreas 4 = .ok (.iload_n 2, 1) := by decide +kernel
theorem dX2_allAreas_5 : decode cX2_allAreas 5 = .ok (.bipush 6, 2) := by decide +kernel
theorem dX2_allAreas_7 : decode cX2_allAreas 7 = .ok (.if_icmp .ge 18, 3) := by decide +kernel
theorem dX2_allAreas_10 : decode cX2_allAreas 10 = .ok (.iload_n 1, 1) := by decide +kernel
theorem dX2_allAreas_11 : decode cX2_allAreas 11 = .ok (.aload_n 0, 1) := by decide +kernel
theorem dX2_allAreas_12 : decode cX2_allAreas 12 = .ok (.getfield 7, 3) := by decide +kernel
theorem dX2_allAreas_15 : decode cX2_allAreas 15 = .ok (.iload_n 2, 1) := by decide +kernel
theorem dX2_allAreas_16 : decode cX2_allAreas 16 = .ok (.iaload, 1) := by decide +kernel
theorem dX2_allAreas_17 : decode cX2_allAreas 17 = .ok (.iadd, 1) := by decide +kernel
theorem dX2_allAreas_18 : decode cX2_allAreas 18 = .ok (.istore_n 1, 1) := by decide +kernel
theorem dX2_allAreas_19 : decode cX2_allAreas 19 = .ok (.iinc 2 1, 3) := by decide +kernel
theorem dX2_allAreas_22 : decode cX2_allAreas 22 = .ok (.goto (-18), 3) := by decide +kernel
theorem dX2_allAreas_25 : decode cX2_allAreas 25 = .ok (.iload_n 1, 1) := by decide +kernel
theorem dX2_allAreas_26 : decode cX2_allAreas 26 = .ok (.ireturn, 1) := by decide +kernel
set_option maxRecDepth 20000 in
theorem ggX2_partOf_X2_allAreas : GoodIn wsX2_partOf wsX2_allAreas := goodIn_r _ [10, 2, 17, 18, 19, 20, 21, 22, 23, 24, 25, 26, 27, 28, 29, 30, 31, 32, 33] (by decide +kernel) (by decide +kernel)
set_option maxRecDepth 20000 in
theorem gX2_partOf_X2_allAreas : GoodIn wsX2_partOf (wsV RX2 98 RX2 yX2_allAreas wsX2_allAreas) := goodIn_app (goodIn_of _ (by decide +kernel)) ggX2_partOf_X2_allAreas
set_option maxRecDepth 20000 in
theorem ggX2_partOf_X2_daysIn : GoodIn wsX2_partOf wsX2_daysIn := goodIn_r _ [14, 15, 16, 17, 18, 19, 20, 21, 22, 23, 24, 25, 26, 27, 28, 29, 30, 31, 32, 33] (by decide +kernel) (by decide +kernel)
set_option maxRecDepth 20000 in
theorem gX2_partOf_X2_daysIn : GoodIn wsX2_partOf (wsV RX2 102 RX2 yX2_daysIn wsX2_daysIn) := goodIn_app (goodIn_of _ (by decide +kernel)) ggX2_partOf_X2_daysIn
theorem dX2_partOf_0 : decode cX2_partOf 0 = .ok (.aload_n 0, 1) := by decide +kernel
theorem dX2_partOf_1 : decode cX2_partOf 1 = .ok (.invokevirtual 98, 3) := by decide +kernel
theorem dX2_partOf_4 : decode cX2_partOf 4 = .ok (.istore_n 3, 1) := by decide +kernel
theorem dX2_partOf_5 : decode cX2_partOf 5 = .ok (.iload_n 3, 1) := by decide +kernel
theorem dX2_partOf_6 : decode cX2_partOf 6 = .ok (.ifCond .ne 5, 3) := by decide +kernel
theorem dX2_partOf_9 : decode cX2_partOf 9 = .ok (.iconst 0, 1) := by decide +kernel
theorem dX2_partOf_10 : decode cX2_partOf 10 = .ok (.ireturn, 1) := by decide +kernel
theorem dX2_partOf_11 : decode cX2_partOf 11 = .ok (.aload_n 0, 1) := by decide +kernel
theorem dX2_partOf_12 : decode cX2_partOf 12 = .ok (.iload_n 1, 1) := by decide +kernel
theorem dX2_partOf_13 : decode cX2_partOf 13 = .ok (.iload_n 2, 1) := by decide +kernel
theorem dX2_partOf_14 : decode cX2_partOf 14 = .ok (.invokevirtual 102, 3) := by decide +kernel
theorem dX2_partOf_17 : decode cX2_partOf 17 = .ok (.istore 4, 2) := by decide +kernel
theorem dX2_partOf_19 : decode cX2_partOf 19 = .ok (.aload_n 0, 1) := by decide +kernel
theorem dX2_partOf_20 : decode cX2_partOf 20 = .ok (.getfield 16, 3) := by decide +kernel
theorem dX2_partOf_23 : decode cX2_partOf 23 = .ok (.iload_n 2, 1) := by decide +kernel
theorem dX2_partOf_24 : decode cX2_partOf 24 = .ok (.iaload, 1) := by decide +kernel
theorem dX2_partOf_25 : decode cX2_partOf 25 = .ok (.i2l, 1) := by decide +kernel
theorem dX2_partOf_26 : decode cX2_partOf 26 = .ok (.aload_n 0, 1) := by decide +kernel
theorem dX2_partOf_27 : decode cX2_partOf 27 = .ok (.getfield 7, 3) := by decide +kernel
theorem dX2_partOf_30 : decode cX2_partOf 30 = .ok (.aload_n 0, 1) := by decide +kernel
theorem dX2_partOf_31 : decode cX2_partOf 31 = .ok (.getfield 19, 3) := by decide +kernel
theorem dX2_partOf_34 : decode cX2_partOf 34 = .ok (.iload_n 1, 1) := by decide +kernel
theorem dX2_partOf_35 : decode cX2_partOf 35 = .ok (.iaload, 1) := by decide +kernel
theorem dX2_partOf_36 : decode cX2_partOf 36 = .ok (.iaload, 1) := by decide +kernel
theorem dX2_partOf_37 : decode cX2_partOf 37 = .ok (.i2l, 1) := by decide +kernel
theorem dX2_partOf_38 : decode cX2_partOf 38 = .ok (.lmul, 1) := by decide +kernel
theorem dX2_partOf_39 : decode cX2_partOf 39 = .ok (.iload 4, 2) := by decide +kernel
theorem dX2_partOf_41 : decode cX2_partOf 41 = .ok (.i2l, 1) := by decide +kernel
theorem dX2_partOf_42 : decode cX2_partOf 42 = .ok (.lmul, 1) := by decide +kernel
theorem dX2_partOf_43 : decode cX2_partOf 43 = .ok (.iload_n 3, 1) := by decide +kernel
theorem dX2_partOf_44 : decode cX2_partOf 44 = .ok (.i2l, 1) := by decide +kernel
theorem dX2_partOf_45 : decode cX2_partOf 45 = .ok (.ldc2_w 105, 3) := by decide +kernel
theorem dX2_partOf_48 : decode cX2_partOf 48 = .ok (.lmul, 1) := by decide +kernel
theorem dX2_partOf_49 : decode cX2_partOf 49 = .ok (.ldiv, 1) := by decide +kernel
theorem dX2_partOf_50 : decode cX2_partOf 50 = .ok (.l2i, 1) := by decide +kernel
theorem dX2_partOf_51 : decode cX2_partOf 51 = .ok (.istore 5, 2) := by decide +kernel
theorem dX2_partOf_53 : decode cX2_partOf 53 = .ok (.aload_n 0, 1) := by decide +kernel
theorem dX2_partOf_54 : decode cX2_partOf 54 = .ok (.getfield 37, 3) := by decide +kernel
theorem dX2_partOf_57 : decode cX2_partOf 57 = .ok (.iload_n 1, 1) := by decide +kernel
theorem dX2_partOf_58 : decode cX2_partOf 58 = .ok (.iaload, 1) := by decide +kernel
theorem dX2_partOf_59 : decode cX2_partOf 59 = .ok (.iconst (-1), 1) := by decide +kernel
theorem dX2_partOf_60 : decode cX2_partOf 60 = .ok (.if_icmp .ne 8, 3) := by decide +kernel
theorem dX2_partOf_63 : decode cX2_partOf 63 = .ok (.iload 5, 2) := by decide +kernel
theorem dX2_partOf_65 : decode cX2_partOf 65 = .ok (.goto 16, 3) := by decide +kernel
theorem dX2_partOf_68 : decode cX2_partOf 68 = .ok (.aload_n 0, 1) := by decide +kernel
theorem dX2_partOf_69 : decode cX2_partOf 69 = .ok (.getfield 37, 3) := by decide +kernel
theorem dX2_partOf_72 : decode cX2_partOf 72 = .ok (.iload_n 1, 1) := by decide +kernel
theorem dX2_partOf_73 : decode cX2_partOf 73 = .ok (.iaload, 1) := by decide +kernel
theorem dX2_partOf_74 : decode cX2_partOf 74 = .ok (.iload 4, 2) := by decide +kernel
theorem dX2_partOf_76 : decode cX2_partOf 76 = .ok (.imul, 1) := by decide +kernel
theorem dX2_partOf_77 : decode cX2_partOf 77 = .ok (.sipush 360, 3) := by decide +kernel
theorem dX2_partOf_80 : decode cX2_partOf 80 = .ok (.idiv, 1) := by decide +kernel
theorem dX2_partOf_81 : decode cX2_partOf 81 = .ok (.istore 6, 2) := by decide +kernel
theorem dX2_partOf_83 : decode cX2_partOf 83 = .ok (.iload 5, 2) := by decide +kernel
theorem dX2_partOf_85 : decode cX2_partOf 85 = .ok (.iload 6, 2) := by decide +kernel
theorem dX2_partOf_87 : decode cX2_partOf 87 = .ok (.if_icmp .ge 8, 3) := by decide +kernel
theorem dX2_partOf_90 : decode cX2_partOf 90 = .ok (.iload 5, 2) := by decide +kernel
theorem dX2_partOf_92 : decode cX2_partOf 92 = .ok (.goto 5, 3) := by decide +kernel
theorem dX2_partOf_95 : decode cX2_partOf 95 = .ok (.iload 6, 2) := by decide +kernel
theorem dX2_partOf_97 : decode cX2_partOf 97 = .ok (.ireturn, 1) := by decide +kernel
set_option maxRecDepth 20000 in
theorem ggX2_voids_X2_isIn : GoodIn wsX2_voids wsX2_isIn := goodIn_r _ [6] (by decide +kernel) (by decide +kernel)
set_option maxRecDepth 20000 in
theorem gX2_voids_X2_isIn : GoodIn wsX2_voids (va_wsS RX2 62 yX2_isIn wsX2_isIn) := goodIn_app (goodIn_of _ (by decide +kernel)) ggX2_voids_X2_isIn
set_option maxRecDepth 20000 in
theorem ggX2_voids_X2_holds : GoodIn wsX2_voids wsX2_holds := goodIn_r _ [10, 11, 18, 19, 20, 21, 22, 23, 24, 25, 26, 27, 28, 29, 30, 31, 32, 33, 34] (by decide +kernel) (by decide +kernel)
set_option maxRecDepth 20000 in
theorem gX2_voids_X2_holds : GoodIn wsX2_voids (wsV RX2 66 RX2 yX2_holds wsX2_holds) := goodIn_app (goodIn_of _ (by decide +kernel)) ggX2_voids_X2_holds
set_option maxRecDepth 20000 in
theorem ggX2_voids_X2_daysIn : GoodIn wsX2_voids wsX2_daysIn := goodIn_r _ [15, 16, 17, 18, 19, 20, 21, 22, 23, 24, 25, 26, 27, 28, 29, 30, 31, 32, 33, 34] (by decide +kernel) (by decide +kernel)
set_option maxRecDepth 20000 in
theorem gX2_voids_X2_daysIn : GoodIn wsX2_voids (wsV RX2 102 RX2 yX2_daysIn wsX2_daysIn) := goodIn_app (goodIn_of _ (by decide +kernel)) ggX2_voids_X2_daysIn
theorem dX2_voids_0 : decode cX2_voids 0 = .ok (.aload_n 0, 1) := by decide +kernel
theorem dX2_voids_1 : decode cX2_voids 1 = .ok (.iload_n 1, 1) := by decide +kernel
theorem dX2_voids_2 : decode cX2_voids 2 = .ok (.iconst 0, 1) := by decide +kernel
theorem dX2_voids_3 : decode cX2_voids 3 = .ok (.iconst 5, 1) := by decide +kernel
theorem dX2_voids_4 : decode cX2_voids 4 = .ok (.invokestatic 62, 3) := by decide +kernel
theorem dX2_voids_7 : decode cX2_voids 7 = .ok (.ifCond .eq 17, 3) := by decide +kernel
theorem dX2_voids_10 : decode cX2_voids 10 = .ok (.iload_n 2, 1) := by decide +kernel
theorem dX2_voids_11 : decode cX2_voids 11 = .ok (.iconst 0, 1) := by decide +kernel
theorem dX2_voids_12 : decode cX2_voids 12 = .ok (.bipush 19, 2) := by decide +kernel
theorem dX2_voids_14 : decode cX2_voids 14 = .ok (.invokestatic 62, 3) := by decide +kernel
theorem dX2_voids_17 : decode cX2_voids 17 = .ok (.ifCond .eq 7, 3) := by decide +kernel
theorem dX2_voids_20 : decode cX2_voids 20 = .ok (.iconst 0, 1) := by decide +kernel
theorem dX2_voids_21 : decode cX2_voids 21 = .ok (.goto 4, 3) := by decide +kernel
theorem dX2_voids_24 : decode cX2_voids 24 = .ok (.iconst 1, 1) := by decide +kernel
theorem dX2_voids_25 : decode cX2_voids 25 = .ok (.invokevirtual 66, 3) := by decide +kernel
theorem dX2_voids_28 : decode cX2_voids 28 = .ok (.ifCond .ne 5, 3) := by decide +kernel
theorem dX2_voids_31 : decode cX2_voids 31 = .ok (.iconst 0, 1) := by decide +kernel
theorem dX2_voids_32 : decode cX2_voids 32 = .ok (.ireturn, 1) := by decide +kernel
theorem dX2_voids_33 : decode cX2_voids 33 = .ok (.sipush 360, 3) := by decide +kernel
theorem dX2_voids_36 : decode cX2_voids 36 = .ok (.istore_n 3, 1) := by decide +kernel
theorem dX2_voids_37 : decode cX2_voids 37 = .ok (.iconst 0, 1) := by decide +kernel
theorem dX2_voids_38 : decode cX2_voids 38 = .ok (.istore 4, 2) := by decide +kernel
theorem dX2_voids_40 : decode cX2_voids 40 = .ok (.iload 4, 2) := by decide +kernel
theorem dX2_voids_42 : decode cX2_voids 42 = .ok (.aload_n 0, 1) := by decide +kernel
theorem dX2_voids_43 : decode cX2_voids 43 = .ok (.getfield 59, 3) := by decide +kernel
theorem dX2_voids_46 : decode cX2_voids 46 = .ok (.if_icmp .ge 34, 3) := by decide +kernel
theorem dX2_voids_49 : decode cX2_voids 49 = .ok (.iload_n 3, 1) := by decide +kernel
theorem dX2_voids_50 : decode cX2_voids 50 = .ok (.aload_n 0, 1) := by decide +kernel
theorem dX2_voids_51 : decode cX2_voids 51 = .ok (.getfield 19, 3) := by decide +kernel
theorem dX2_voids_54 : decode cX2_voids 54 = .ok (.iload 4, 2) := by decide +kernel
theorem dX2_voids_56 : decode cX2_voids 56 = .ok (.iaload, 1) := by decide +kernel
theorem dX2_voids_57 : decode cX2_voids 57 = .ok (.iload_n 1, 1) := by decide +kernel
theorem dX2_voids_58 : decode cX2_voids 58 = .ok (.if_icmp .ne 13, 3) := by decide +kernel
theorem dX2_voids_61 : decode cX2_voids 61 = .ok (.aload_n 0, 1) := by decide +kernel
theorem dX2_voids_62 : decode cX2_voids 62 = .ok (.iload 4, 2) := by decide +kernel
theorem dX2_voids_64 : decode cX2_voids 64 = .ok (.iload_n 2, 1) := by decide +kernel
theorem dX2_voids_65 : decode cX2_voids 65 = .ok (.invokevirtual 102, 3) := by decide +kernel
theorem dX2_voids_68 : decode cX2_voids 68 = .ok (.goto 4, 3) := by decide +kernel
theorem dX2_voids_71 : decode cX2_voids 71 = .ok (.iconst 0, 1) := by decide +kernel
theorem dX2_voids_72 : decode cX2_voids 72 = .ok (.isub, 1) := by decide +kernel
theorem dX2_voids_73 : decode cX2_voids 73 = .ok (.istore_n 3, 1) := by decide +kernel
theorem dX2_voids_74 : decode cX2_voids 74 = .ok (.iinc 4 1, 3) := by decide +kernel
theorem dX2_voids_77 : decode cX2_voids 77 = .ok (.goto (-37), 3) := by decide +kernel
theorem dX2_voids_80 : decode cX2_voids 80 = .ok (.iload_n 3, 1) := by decide +kernel
theorem dX2_voids_81 : decode cX2_voids 81 = .ok (.ireturn, 1) := by decide +kernel
set_option maxRecDepth 20000 in
theorem ggX2_part_X2_isLease : GoodIn wsX2_part wsX2_isLease := goodIn_r _ [5, 6, 7, 8, 4, 9, 34, 35, 36, 37, 38, 39, 40, 41, 42, 43, 44, 45, 46, 47, 48, 49, 50] (by decide +kernel) (by decide +kernel)
set_option maxRecDepth 20000 in
theorem gX2_part_X2_isLease : GoodIn wsX2_part (wsV RX2 75 RX2 yX2_isLease wsX2_isLease) := goodIn_app (goodIn_of _ (by decide +kernel)) ggX2_part_X2_isLease
set_option maxRecDepth 20000 in
theorem ggX2_part_X2_isIn : GoodIn wsX2_part wsX2_isIn := goodIn_r _ [9] (by decide +kernel) (by decide +kernel)
set_option maxRecDepth 20000 in
theorem gX2_part_X2_isIn : GoodIn wsX2_part (va_wsS RX2 62 yX2_isIn wsX2_isIn) := goodIn_app (goodIn_of _ (by decide +kernel)) ggX2_part_X2_isIn
set_option maxRecDepth 20000 in
theorem ggX2_part_X2_holds : GoodIn wsX2_part wsX2_holds := goodIn_r _ [13, 14, 34, 35, 36, 37, 38, 39, 40, 41, 42, 43, 44, 45, 46, 47, 48, 49, 50] (by decide +kernel) (by decide +kernel)
set_option maxRecDepth 20000 in
theorem gX2_part_X2_holds : GoodIn wsX2_part (wsV RX2 66 RX2 yX2_holds wsX2_holds) := goodIn_app (goodIn_of _ (by decide +kernel)) ggX2_part_X2_holds
set_option maxRecDepth 20000 in
theorem ggX2_part_X2_partOf : GoodIn wsX2_part wsX2_partOf := goodIn_r _ [18, 19, 20, 21, 22, 23, 24, 25, 26, 4, 27, 28, 29, 30, 31, 32, 33, 34, 35, 36, 37, 38, 39, 40, 41, 42, 43, 44, 45, 46, 47, 48, 49, 50] (by decide +kernel) (by decide +kernel)
set_option maxRecDepth 20000 in
theorem gX2_part_X2_partOf : GoodIn wsX2_part (wsV RX2 107 RX2 yX2_partOf wsX2_partOf) := goodIn_app (goodIn_of _ (by decide +kernel)) ggX2_part_X2_partOf
theorem dX2_part_0 : decode cX2_part 0 = .ok (.aload_n 0, 1) := by decide +kernel
theorem dX2_part_1 : decode cX2_part 1 = .ok (.aload_n 0, 1) := by decide +kernel
theorem dX2_part_2 : decode cX2_part 2 = .ok (.iload_n 1, 1) := by decide +kernel
theorem dX2_part_3 : decode cX2_part 3 = .ok (.invokevirtual 75, 3) := by decide +kernel
theorem dX2_part_6 : decode cX2_part 6 = .ok (.ifCond .eq 17, 3) := by decide +kernel
theorem dX2_part_9 : decode cX2_part 9 = .ok (.iload_n 2, 1) := by decide +kernel
theorem dX2_part_10 : decode cX2_part 10 = .ok (.iconst 0, 1) := by decide +kernel
theorem dX2_part_11 : decode cX2_part 11 = .ok (.bipush 19, 2) := by decide +kernel
theorem dX2_part_13 : decode cX2_part 13 = .ok (.invokestatic 62, 3) := by decide +kernel
theorem dX2_part_16 : decode cX2_part 16 = .ok (.ifCond .eq 7, 3) := by decide +kernel
theorem dX2_part_19 : decode cX2_part 19 = .ok (.iconst 0, 1) := by decide +kernel
theorem dX2_part_20 : decode cX2_part 20 = .ok (.goto 4, 3) := by decide +kernel
theorem dX2_part_23 : decode cX2_part 23 = .ok (.iconst 1, 1) := by decide +kernel
theorem dX2_part_24 : decode cX2_part 24 = .ok (.invokevirtual 66, 3) := by decide +kernel
theorem dX2_part_27 : decode cX2_part 27 = .ok (.ifCond .eq 12, 3) := by decide +kernel
theorem dX2_part_30 : decode cX2_part 30 = .ok (.aload_n 0, 1) := by decide +kernel
theorem dX2_part_31 : decode cX2_part 31 = .ok (.iload_n 1, 1) := by decide +kernel
theorem dX2_part_32 : decode cX2_part 32 = .ok (.iload_n 2, 1) := by decide +kernel
theorem dX2_part_33 : decode cX2_part 33 = .ok (.invokevirtual 107, 3) := by decide +kernel
theorem dX2_part_36 : decode cX2_part 36 = .ok (.goto 4, 3) := by decide +kernel
theorem dX2_part_39 : decode cX2_part 39 = .ok (.iconst 0, 1) := by decide +kernel
theorem dX2_part_40 : decode cX2_part 40 = .ok (.ireturn, 1) := by decide +kernel
set_option maxRecDepth 20000 in
theorem ggX2_owners_X2_isIn : GoodIn wsX2_owners wsX2_isIn := goodIn_r _ [6] (by decide +kernel) (by decide +kernel)
set_option maxRecDepth 20000 in
theorem gX2_owners_X2_isIn : GoodIn wsX2_owners (va_wsS RX2 62 yX2_isIn wsX2_isIn) := goodIn_app (goodIn_of _ (by decide +kernel)) ggX2_owners_X2_isIn
set_option maxRecDepth 20000 in
theorem ggX2_owners_X2_holds : GoodIn wsX2_owners wsX2_holds := goodIn_r _ [10, 11, 30, 31, 32, 33, 34, 35, 36, 37, 38, 39, 40, 41, 42, 43, 44, 45, 46] (by decide +kernel) (by decide +kernel)
set_option maxRecDepth 20000 in
theorem gX2_owners_X2_holds : GoodIn wsX2_owners (wsV RX2 66 RX2 yX2_holds wsX2_holds) := goodIn_app (goodIn_of _ (by decide +kernel)) ggX2_owners_X2_holds
set_option maxRecDepth 20000 in
theorem ggX2_owners_X2_partOf : GoodIn wsX2_owners wsX2_partOf := goodIn_r _ [15, 1, 16, 17, 18, 19, 20, 21, 22, 5, 23, 24, 25, 26, 27, 28, 29, 30, 31, 32, 33, 34, 35, 36, 37, 38, 39, 40, 41, 42, 43, 44, 45, 46] (by decide +kernel) (by decide +kernel)
set_option maxRecDepth 20000 in
theorem gX2_owners_X2_partOf : GoodIn wsX2_owners (wsV RX2 107 RX2 yX2_partOf wsX2_partOf) := goodIn_app (goodIn_of _ (by decide +kernel)) ggX2_owners_X2_partOf
theorem dX2_owners_0 : decode cX2_owners 0 = .ok (.aload_n 0, 1) := by decide +kernel
theorem dX2_owners_1 : decode cX2_owners 1 = .ok (.iload_n 1, 1) := by decide +kernel
theorem dX2_owners_2 : decode cX2_owners 2 = .ok (.iconst 0, 1) := by decide +kernel
theorem dX2_owners_3 : decode cX2_owners 3 = .ok (.bipush 19, 2) := by decide +kernel
theorem dX2_owners_5 : decode cX2_owners 5 = .ok (.invokestatic 62, 3) := by decide +kernel
theorem dX2_owners_8 : decode cX2_owners 8 = .ok (.ifCond .eq 7, 3) := by decide +kernel
theorem dX2_owners_11 : decode cX2_owners 11 = .ok (.iconst 0, 1) := by decide +kernel
theorem dX2_owners_12 : decode cX2_owners 12 = .ok (.goto 4, 3) := by decide +kernel
theorem dX2_owners_15 : decode cX2_owners 15 = .ok (.iconst 1, 1) := by decide +kernel
theorem dX2_owners_16 : decode cX2_owners 16 = .ok (.invokevirtual 66, 3) := by decide +kernel
theorem dX2_owners_19 : decode cX2_owners 19 = .ok (.ifCond .ne 5, 3) := by decide +kernel
theorem dX2_owners_22 : decode cX2_owners 22 = .ok (.iconst 0, 1) := by decide +kernel
theorem dX2_owners_23 : decode cX2_owners 23 = .ok (.ireturn, 1) := by decide +kernel
theorem dX2_owners_24 : decode cX2_owners 24 = .ok (.aload_n 0, 1) := by decide +kernel
theorem dX2_owners_25 : decode cX2_owners 25 = .ok (.getfield 16, 3) := by decide +kernel
theorem dX2_owners_28 : decode cX2_owners 28 = .ok (.iload_n 1, 1) := by decide +kernel
theorem dX2_owners_29 : decode cX2_owners 29 = .ok (.iaload, 1) := by decide +kernel
theorem dX2_owners_30 : decode cX2_owners 30 = .ok (.istore_n 2, 1) := by decide +kernel
theorem dX2_owners_31 : decode cX2_owners 31 = .ok (.iconst 0, 1) := by decide +kernel
theorem dX2_owners_32 : decode cX2_owners 32 = .ok (.istore_n 3, 1) := by decide +kernel
theorem dX2_owners_33 : decode cX2_owners 33 = .ok (.iload_n 3, 1) := by decide +kernel
theorem dX2_owners_34 : decode cX2_owners 34 = .ok (.aload_n 0, 1) := by decide +kernel
theorem dX2_owners_35 : decode cX2_owners 35 = .ok (.getfield 59, 3) := by decide +kernel
theorem dX2_owners_38 : decode cX2_owners 38 = .ok (.if_icmp .ge 18, 3) := by decide +kernel
theorem dX2_owners_41 : decode cX2_owners 41 = .ok (.iload_n 2, 1) := by decide +kernel
theorem dX2_owners_42 : decode cX2_owners 42 = .ok (.aload_n 0, 1) := by decide +kernel
theorem dX2_owners_43 : decode cX2_owners 43 = .ok (.iload_n 3, 1) := by decide +kernel
theorem dX2_owners_44 : decode cX2_owners 44 = .ok (.iload_n 1, 1) := by decide +kernel
theorem dX2_owners_45 : decode cX2_owners 45 = .ok (.invokevirtual 107, 3) := by decide +kernel
theorem dX2_owners_48 : decode cX2_owners 48 = .ok (.isub, 1) := by decide +kernel
theorem dX2_owners_49 : decode cX2_owners 49 = .ok (.istore_n 2, 1) := by decide +kernel
theorem dX2_owners_50 : decode cX2_owners 50 = .ok (.iinc 3 1, 3) := by decide +kernel
theorem dX2_owners_53 : decode cX2_owners 53 = .ok (.goto (-20), 3) := by decide +kernel
theorem dX2_owners_56 : decode cX2_owners 56 = .ok (.iload_n 2, 1) := by decide +kernel
theorem dX2_owners_57 : decode cX2_owners 57 = .ok (.ireturn, 1) := by decide +kernel
set_option maxRecDepth 20000 in
theorem ggX2_balance_X2_isLease : GoodIn wsX2_balance wsX2_isLease := goodIn_r _ [6, 7, 8, 9, 5, 10, 35, 36, 37, 38, 39, 40, 41, 42, 43, 44, 45, 46, 47, 48, 49, 50, 51] (by decide +kernel) (by decide +kernel)
set_option maxRecDepth 20000 in
theorem gX2_balance_X2_isLease : GoodIn wsX2_balance (wsV RX2 75 RX2 yX2_isLease wsX2_isLease) := goodIn_app (goodIn_of _ (by decide +kernel)) ggX2_balance_X2_isLease
set_option maxRecDepth 20000 in
theorem ggX2_balance_X2_isIn : GoodIn wsX2_balance wsX2_isIn := goodIn_r _ [10] (by decide +kernel) (by decide +kernel)
set_option maxRecDepth 20000 in
theorem gX2_balance_X2_isIn : GoodIn wsX2_balance (va_wsS RX2 62 yX2_isIn wsX2_isIn) := goodIn_app (goodIn_of _ (by decide +kernel)) ggX2_balance_X2_isIn
set_option maxRecDepth 20000 in
theorem ggX2_balance_X2_holds : GoodIn wsX2_balance wsX2_holds := goodIn_r _ [14, 15, 35, 36, 37, 38, 39, 40, 41, 42, 43, 44, 45, 46, 47, 48, 49, 50, 51] (by decide +kernel) (by decide +kernel)
set_option maxRecDepth 20000 in
theorem gX2_balance_X2_holds : GoodIn wsX2_balance (wsV RX2 66 RX2 yX2_holds wsX2_holds) := goodIn_app (goodIn_of _ (by decide +kernel)) ggX2_balance_X2_holds
set_option maxRecDepth 20000 in
theorem ggX2_balance_X2_partOf : GoodIn wsX2_balance wsX2_partOf := goodIn_r _ [19, 20, 21, 22, 23, 24, 25, 26, 27, 5, 28, 29, 30, 31, 32, 33, 34, 35, 36, 37, 38, 39, 40, 41, 42, 43, 44, 45, 46, 47, 48, 49, 50, 51] (by decide +kernel) (by decide +kernel)
set_option maxRecDepth 20000 in
theorem gX2_balance_X2_partOf : GoodIn wsX2_balance (wsV RX2 107 RX2 yX2_partOf wsX2_partOf) := goodIn_app (goodIn_of _ (by decide +kernel)) ggX2_balance_X2_partOf
set_option maxRecDepth 20000 in
theorem ggX2_balance_X2_daysIn : GoodIn wsX2_balance wsX2_daysIn := goodIn_r _ [32, 33, 34, 35, 36, 37, 38, 39, 40, 41, 42, 43, 44, 45, 46, 47, 48, 49, 50, 51] (by decide +kernel) (by decide +kernel)
set_option maxRecDepth 20000 in
theorem gX2_balance_X2_daysIn : GoodIn wsX2_balance (wsV RX2 102 RX2 yX2_daysIn wsX2_daysIn) := goodIn_app (goodIn_of _ (by decide +kernel)) ggX2_balance_X2_daysIn
theorem dX2_balance_0 : decode cX2_balance 0 = .ok (.aload_n 0, 1) := by decide +kernel
theorem dX2_balance_1 : decode cX2_balance 1 = .ok (.aload_n 0, 1) := by decide +kernel
theorem dX2_balance_2 : decode cX2_balance 2 = .ok (.iload_n 1, 1) := by decide +kernel
theorem dX2_balance_3 : decode cX2_balance 3 = .ok (.invokevirtual 75, 3) := by decide +kernel
theorem dX2_balance_6 : decode cX2_balance 6 = .ok (.ifCond .eq 17, 3) := by decide +kernel
theorem dX2_balance_9 : decode cX2_balance 9 = .ok (.iload_n 2, 1) := by decide +kernel
theorem dX2_balance_10 : decode cX2_balance 10 = .ok (.iconst 0, 1) := by decide +kernel
theorem dX2_balance_11 : decode cX2_balance 11 = .ok (.bipush 19, 2) := by decide +kernel
theorem dX2_balance_13 : decode cX2_balance 13 = .ok (.invokestatic 62, 3) := by decide +kernel
theorem dX2_balance_16 : decode cX2_balance 16 = .ok (.ifCond .eq 7, 3) := by decide +kernel
theorem dX2_balance_19 : decode cX2_balance 19 = .ok (.iconst 0, 1) := by decide +kernel
theorem dX2_balance_20 : decode cX2_balance 20 = .ok (.goto 4, 3) := by decide +kernel
theorem dX2_balance_23 : decode cX2_balance 23 = .ok (.iconst 1, 1) := by decide +kernel
theorem dX2_balance_24 : decode cX2_balance 24 = .ok (.invokevirtual 66, 3) := by decide +kernel
theorem dX2_balance_27 : decode cX2_balance 27 = .ok (.ifCond .ne 5, 3) := by decide +kernel
theorem dX2_balance_30 : decode cX2_balance 30 = .ok (.iconst 0, 1) := by decide +kernel
theorem dX2_balance_31 : decode cX2_balance 31 = .ok (.ireturn, 1) := by decide +kernel
theorem dX2_balance_32 : decode cX2_balance 32 = .ok (.aload_n 0, 1) := by decide +kernel
theorem dX2_balance_33 : decode cX2_balance 33 = .ok (.iload_n 1, 1) := by decide +kernel
theorem dX2_balance_34 : decode cX2_balance 34 = .ok (.iload_n 2, 1) := by decide +kernel
theorem dX2_balance_35 : decode cX2_balance 35 = .ok (.invokevirtual 107, 3) := by decide +kernel
theorem dX2_balance_38 : decode cX2_balance 38 = .ok (.aload_n 0, 1) := by decide +kernel
theorem dX2_balance_39 : decode cX2_balance 39 = .ok (.getfield 40, 3) := by decide +kernel
theorem dX2_balance_42 : decode cX2_balance 42 = .ok (.iload_n 1, 1) := by decide +kernel
theorem dX2_balance_43 : decode cX2_balance 43 = .ok (.iaload, 1) := by decide +kernel
theorem dX2_balance_44 : decode cX2_balance 44 = .ok (.aload_n 0, 1) := by decide +kernel
theorem dX2_balance_45 : decode cX2_balance 45 = .ok (.iload_n 1, 1) := by decide +kernel
theorem dX2_balance_46 : decode cX2_balance 46 = .ok (.iload_n 2, 1) := by decide +kernel
theorem dX2_balance_47 : decode cX2_balance 47 = .ok (.invokevirtual 102, 3) := by decide +kernel
theorem dX2_balance_50 : decode cX2_balance 50 = .ok (.imul, 1) := by decide +kernel
theorem dX2_balance_51 : decode cX2_balance 51 = .ok (.bipush 30, 2) := by decide +kernel
theorem dX2_balance_53 : decode cX2_balance 53 = .ok (.idiv, 1) := by decide +kernel
theorem dX2_balance_54 : decode cX2_balance 54 = .ok (.isub, 1) := by decide +kernel
theorem dX2_balance_55 : decode cX2_balance 55 = .ok (.ireturn, 1) := by decide +kernel
set_option maxRecDepth 20000 in
theorem ggX2_share_X2_isIn : GoodIn wsX2_share wsX2_isIn := goodIn_r _ [5] (by decide +kernel) (by decide +kernel)
set_option maxRecDepth 20000 in
theorem gX2_share_X2_isIn : GoodIn wsX2_share (va_wsS RX2 62 yX2_isIn wsX2_isIn) := goodIn_app (goodIn_of _ (by decide +kernel)) ggX2_share_X2_isIn
set_option maxRecDepth 20000 in
theorem ggX2_share_X2_holds : GoodIn wsX2_share wsX2_holds := goodIn_r _ [9, 10, 15, 16, 17, 18, 19, 20, 21, 22, 23, 24, 25, 26, 27, 28, 29, 30, 31] (by decide +kernel) (by decide +kernel)
set_option maxRecDepth 20000 in
theorem gX2_share_X2_holds : GoodIn wsX2_share (wsV RX2 66 RX2 yX2_holds wsX2_holds) := goodIn_app (goodIn_of _ (by decide +kernel)) ggX2_share_X2_holds
set_option maxRecDepth 20000 in
theorem ggX2_share_X2_allAreas : GoodIn wsX2_share wsX2_allAreas := goodIn_r _ [14, 1, 15, 16, 17, 18, 19, 20, 21, 22, 23, 24, 25, 26, 27, 28, 29, 30, 31] (by decide +kernel) (by decide +kernel)
set_option maxRecDepth 20000 in
theorem gX2_share_X2_allAreas : GoodIn wsX2_share (wsV RX2 98 RX2 yX2_allAreas wsX2_allAreas) := goodIn_app (goodIn_of _ (by decide +kernel)) ggX2_share_X2_allAreas
theorem dX2_share_0 : decode cX2_share 0 = .ok (.aload_n 0, 1) := by decide +kernel
theorem dX2_share_1 : decode cX2_share 1 = .ok (.iload_n 1, 1) := by decide +kernel
theorem dX2_share_2 : decode cX2_share 2 = .ok (.iconst 0, 1) := by decide +kernel
theorem dX2_share_3 : decode cX2_share 3 = .ok (.iconst 5, 1) := by decide +kernel
theorem dX2_share_4 : decode cX2_share 4 = .ok (.invokestatic 62, 3) := by decide +kernel
theorem dX2_share_7 : decode cX2_share 7 = .ok (.ifCond .eq 7, 3) := by decide +kernel
theorem dX2_share_10 : decode cX2_share 10 = .ok (.iconst 0, 1) := by decide +kernel
theorem dX2_share_11 : decode cX2_share 11 = .ok (.goto 4, 3) := by decide +kernel
theorem dX2_share_14 : decode cX2_share 14 = .ok (.iconst 1, 1) := by decide +kernel
theorem dX2_share_15 : decode cX2_share 15 = .ok (.invokevirtual 66, 3) := by decide +kernel
theorem dX2_share_18 : decode cX2_share 18 = .ok (.ifCond .eq 10, 3) := by decide +kernel
theorem dX2_share_21 : decode cX2_share 21 = .ok (.aload_n 0, 1) := by decide +kernel
theorem dX2_share_22 : decode cX2_share 22 = .ok (.invokevirtual 98, 3) := by decide +kernel
theorem dX2_share_25 : decode cX2_share 25 = .ok (.ifCond .ne 5, 3) := by decide +kernel
theorem dX2_share_28 : decode cX2_share 28 = .ok (.dconst 0, 1) := by decide +kernel
theorem dX2_share_29 : decode cX2_share 29 = .ok (.dreturn, 1) := by decide +kernel
theorem dX2_share_30 : decode cX2_share 30 = .ok (.aload_n 0, 1) := by decide +kernel
theorem dX2_share_31 : decode cX2_share 31 = .ok (.getfield 7, 3) := by decide +kernel
theorem dX2_share_34 : decode cX2_share 34 = .ok (.iload_n 1, 1) := by decide +kernel
theorem dX2_share_35 : decode cX2_share 35 = .ok (.iaload, 1) := by decide +kernel
theorem dX2_share_36 : decode cX2_share 36 = .ok (.i2d, 1) := by decide +kernel
theorem dX2_share_37 : decode cX2_share 37 = .ok (.aload_n 0, 1) := by decide +kernel
theorem dX2_share_38 : decode cX2_share 38 = .ok (.invokevirtual 98, 3) := by decide +kernel
theorem dX2_share_41 : decode cX2_share 41 = .ok (.i2d, 1) := by decide +kernel
theorem dX2_share_42 : decode cX2_share 42 = .ok (.ddiv, 1) := by decide +kernel
theorem dX2_share_43 : decode cX2_share 43 = .ok (.dreturn, 1) := by decide +kernel
