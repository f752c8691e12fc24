theorem dX0_init_0 : decode cX0_init 0 = .ok (.aload_n 0, 1) := by decide +kernel
theorem dX0_init_1 : decode cX0_init 1 = .ok (.invokespecial 3, 3) := by decide +kernel
theorem dX0_init_4 : decode cX0_init 4 = .ok (.aload_n 0, 1) := by decide +kernel
theorem dX0_init_5 : decode cX0_init 5 = .ok (.iconst 0, 1) := by decide +kernel
theorem dX0_init_6 : decode cX0_init 6 = .ok (.putfield 9, 3) := by decide +kernel
theorem dX0_init_9 : decode cX0_init 9 = .ok (.aload_n 0, 1) := by decide +kernel
theorem dX0_init_10 : decode cX0_init 10 = .ok (.iconst 0, 1) := by decide +kernel
theorem dX0_init_11 : decode cX0_init 11 = .ok (.putfield 15, 3) := by decide +kernel
theorem dX0_init_14 : decode cX0_init 14 = .ok (.aload_n 0, 1) := by decide +kernel
theorem dX0_init_15 : decode cX0_init 15 = .ok (.iconst (-1), 1) := by decide +kernel
theorem dX0_init_16 : decode cX0_init 16 = .ok (.putfield 18, 3) := by decide +kernel
theorem dX0_init_19 : decode cX0_init 19 = .ok (.aload_n 0, 1) := by decide +kernel
theorem dX0_init_20 : decode cX0_init 20 = .ok (.iconst 0, 1) := by decide +kernel
theorem dX0_init_21 : decode cX0_init 21 = .ok (.putfield 21, 3) := by decide +kernel
theorem dX0_init_24 : decode cX0_init 24 = .ok (.aload_n 0, 1) := by decide +kernel
theorem dX0_init_25 : decode cX0_init 25 = .ok (.iconst 0, 1) := by decide +kernel
theorem dX0_init_26 : decode cX0_init 26 = .ok (.putfield 24, 3) := by decide +kernel
theorem dX0_init_29 : decode cX0_init 29 = .ok (.aload_n 0, 1) := by decide +kernel
theorem dX0_init_30 : decode cX0_init 30 = .ok (.bipush 6, 2) := by decide +kernel
theorem dX0_init_32 : decode cX0_init 32 = .ok (.newarray .int, 2) := by decide +kernel
theorem dX0_init_34 : decode cX0_init 34 = .ok (.putfield 27, 3) := by decide +kernel
theorem dX0_init_37 : decode cX0_init 37 = .ok (.aload_n 0, 1) := by decide +kernel
theorem dX0_init_38 : decode cX0_init 38 = .ok (.bipush 6, 2) := by decide +kernel
theorem dX0_init_40 : decode cX0_init 40 = .ok (.newarray .int, 2) := by decide +kernel
theorem dX0_init_42 : decode cX0_init 42 = .ok (.putfield 31, 3) := by decide +kernel
theorem dX0_init_45 : decode cX0_init 45 = .ok (.aload_n 0, 1) := by decide +kernel
theorem dX0_init_46 : decode cX0_init 46 = .ok (.iconst 0, 1) := by decide +kernel
theorem dX0_init_47 : decode cX0_init 47 = .ok (.putfield 34, 3) := by decide +kernel
theorem dX0_init_50 : decode cX0_init 50 = .ok (.aload_n 0, 1) := by decide +kernel
theorem dX0_init_51 : decode cX0_init 51 = .ok (.iload_n 1, 1) := by decide +kernel
theorem dX0_init_52 : decode cX0_init 52 = .ok (.putfield 37, 3) := by decide +kernel
theorem dX0_init_55 : decode cX0_init 55 = .ok (.aload_n 0, 1) := by decide +kernel
theorem dX0_init_56 : decode cX0_init 56 = .ok (.iload_n 2, 1) := by decide +kernel
theorem dX0_init_57 : decode cX0_init 57 = .ok (.putfield 40, 3) := by decide +kernel
theorem dX0_init_60 : decode cX0_init 60 = .ok (.aload_n 0, 1) := by decide +kernel
theorem dX0_init_61 : decode cX0_init 61 = .ok (.iload_n 3, 1) := by decide +kernel
theorem dX0_init_62 : decode cX0_init 62 = .ok (.putfield 43, 3) := by decide +kernel
theorem dX0_init_65 : decode cX0_init 65 = .ok (.aload_n 0, 1) := by decide +kernel
theorem dX0_init_66 : decode cX0_init 66 = .ok (.iload 4, 2) := by decide +kernel
theorem dX0_init_68 : decode cX0_init 68 = .ok (.putfield 46, 3) := by decide +kernel
theorem dX0_init_71 : decode cX0_init 71 = .ok (.return_, 1) := by decide +kernel
theorem dX0_runsOn_0 : decode cX0_runsOn 0 = .ok (.iload_n 1, 1) := by decide +kernel
theorem dX0_runsOn_1 : decode cX0_runsOn 1 = .ok (.aload_n 0, 1) := by decide +kernel
theorem dX0_runsOn_2 : decode cX0_runsOn 2 = .ok (.getfield 40, 3) := by decide +kernel
theorem dX0_runsOn_5 : decode cX0_runsOn 5 = .ok (.if_icmp .lt 15, 3) := by decide +kernel
theorem dX0_runsOn_8 : decode cX0_runsOn 8 = .ok (.iload_n 1, 1) := by decide +kernel
theorem dX0_runsOn_9 : decode cX0_runsOn 9 = .ok (.aload_n 0, 1) := by decide +kernel
theorem dX0_runsOn_10 : decode cX0_runsOn 10 = .ok (.getfield 43, 3) := by decide +kernel
theorem dX0_runsOn_13 : decode cX0_runsOn 13 = .ok (.if_icmp .ge 7, 3) := by decide +kernel
theorem dX0_runsOn_16 : decode cX0_runsOn 16 = .ok (.iconst 1, 1) := by decide +kernel
theorem dX0_runsOn_17 : decode cX0_runsOn 17 = .ok (.goto 4, 3) := by decide +kernel
theorem dX0_runsOn_20 : decode cX0_runsOn 20 = .ok (.iconst 0, 1) := by decide +kernel
theorem dX0_runsOn_21 : decode cX0_runsOn 21 = .ok (.ireturn, 1) := by decide +kernel
theorem dX0_isFreeOn_0 : decode cX0_isFreeOn 0 = .ok (.iload_n 1, 1) := by decide +kernel
theorem dX0_isFreeOn_1 : decode cX0_isFreeOn 1 = .ok (.aload_n 0, 1) := by decide +kernel
theorem dX0_isFreeOn_2 : decode cX0_isFreeOn 2 = .ok (.getfield 40, 3) := by decide +kernel
theorem dX0_isFreeOn_5 : decode cX0_isFreeOn 5 = .ok (.aload_n 0, 1) := by decide +kernel
theorem dX0_isFreeOn_6 : decode cX0_isFreeOn 6 = .ok (.getfield 9, 3) := by decide +kernel
theorem dX0_isFreeOn_9 : decode cX0_isFreeOn 9 = .ok (.iadd, 1) := by decide +kernel
theorem dX0_isFreeOn_10 : decode cX0_isFreeOn 10 = .ok (.if_icmp .ge 7, 3) := by decide +kernel
theorem dX0_isFreeOn_13 : decode cX0_isFreeOn 13 = .ok (.iconst 1, 1) := by decide +kernel
theorem dX0_isFreeOn_14 : decode cX0_isFreeOn 14 = .ok (.goto 4, 3) := by decide +kernel
theorem dX0_isFreeOn_17 : decode cX0_isFreeOn 17 = .ok (.iconst 0, 1) := by decide +kernel
theorem dX0_isFreeOn_18 : decode cX0_isFreeOn 18 = .ok (.ireturn, 1) := by decide +kernel
theorem dX0_daysWithin_0 : decode cX0_daysWithin 0 = .ok (.iconst 0, 1) := by decide +kernel
theorem dX0_daysWithin_1 : decode cX0_daysWithin 1 = .ok (.aload_n 0, 1) := by decide +kernel
theorem dX0_daysWithin_2 : decode cX0_daysWithin 2 = .ok (.getfield 43, 3) := by decide +kernel
theorem dX0_daysWithin_5 : decode cX0_daysWithin 5 = .ok (.iload_n 2, 1) := by decide +kernel
theorem dX0_daysWithin_6 : decode cX0_daysWithin 6 = .ok (.invokestatic 49, 3) := by decide +kernel
theorem dX0_daysWithin_9 : decode cX0_daysWithin 9 = .ok (.aload_n 0, 1) := by decide +kernel
theorem dX0_daysWithin_10 : decode cX0_daysWithin 10 = .ok (.getfield 40, 3) := by decide +kernel
theorem dX0_daysWithin_13 : decode cX0_daysWithin 13 = .ok (.iload_n 1, 1) := by decide +kernel
theorem dX0_daysWithin_14 : decode cX0_daysWithin 14 = .ok (.invokestatic 55, 3) := by decide +kernel
theorem dX0_daysWithin_17 : decode cX0_daysWithin 17 = .ok (.isub, 1) := by decide +kernel
theorem dX0_daysWithin_18 : decode cX0_daysWithin 18 = .ok (.invokestatic 55, 3) := by decide +kernel
theorem dX0_daysWithin_21 : decode cX0_daysWithin 21 = .ok (.ireturn, 1) := by decide +kernel
set_option maxRecDepth 20000 in
theorem ggX0_daysIn_X0_daysWithin : GoodIn wsX0_daysIn wsX0_daysWithin := goodIn_r _ [5, 6, 7, 8, 9, 10, 11, 12, 13, 14, 15, 16, 17, 18, 19, 20, 21, 22, 23, 24, 25, 26] (by decide +kernel) (by decide +kernel)
set_option maxRecDepth 20000 in
theorem gX0_daysIn_X0_daysWithin : GoodIn wsX0_daysIn (wsV RX0 58 RX0 yX0_daysWithin wsX0_daysWithin) := goodIn_app (goodIn_of _ (by decide +kernel)) ggX0_daysIn_X0_daysWithin
theorem dX0_daysIn_0 : decode cX0_daysIn 0 = .ok (.iload_n 1, 1) := by decide +kernel
theorem dX0_daysIn_1 : decode cX0_daysIn 1 = .ok (.sipush 360, 3) := by decide +kernel
theorem dX0_daysIn_4 : decode cX0_daysIn 4 = .ok (.imul, 1) := by decide +kernel
theorem dX0_daysIn_5 : decode cX0_daysIn 5 = .ok (.istore_n 2, 1) := by decide +kernel
theorem dX0_daysIn_6 : decode cX0_daysIn 6 = .ok (.aload_n 0, 1) := by decide +kernel
theorem dX0_daysIn_7 : decode cX0_daysIn 7 = .ok (.iload_n 2, 1) := by decide +kernel
theorem dX0_daysIn_8 : decode cX0_daysIn 8 = .ok (.iload_n 2, 1) := by decide +kernel
theorem dX0_daysIn_9 : decode cX0_daysIn 9 = .ok (.sipush 360, 3) := by decide +kernel
theorem dX0_daysIn_12 : decode cX0_daysIn 12 = .ok (.iadd, 1) := by decide +kernel
theorem dX0_daysIn_13 : decode cX0_daysIn 13 = .ok (.invokevirtual 58, 3) := by decide +kernel
theorem dX0_daysIn_16 : decode cX0_daysIn 16 = .ok (.ireturn, 1) := by decide +kernel
theorem dX0_putStep_0 : decode cX0_putStep 0 = .ok (.iconst 0, 1) := by decide +kernel
theorem dX0_putStep_1 : decode cX0_putStep 1 = .ok (.istore_n 3, 1) := by decide +kernel
theorem dX0_putStep_2 : decode cX0_putStep 2 = .ok (.iload_n 3, 1) := by decide +kernel
theorem dX0_putStep_3 : decode cX0_putStep 3 = .ok (.aload_n 0, 1) := by decide +kernel
theorem dX0_putStep_4 : decode cX0_putStep 4 = .ok (.getfield 34, 3) := by decide +kernel
theorem dX0_putStep_7 : decode cX0_putStep 7 = .ok (.if_icmp .ge 25, 3) := by decide +kernel
theorem dX0_putStep_10 : decode cX0_putStep 10 = .ok (.iload_n 3, 1) := by decide +kernel
theorem dX0_putStep_11 : decode cX0_putStep 11 = .ok (.bipush 6, 2) := by decide +kernel
theorem dX0_putStep_13 : decode cX0_putStep 13 = .ok (.if_icmp .ge 19, 3) := by decide +kernel
theorem dX0_putStep_16 : decode cX0_putStep 16 = .ok (.aload_n 0, 1) := by decide +kernel
theorem dX0_putStep_17 : decode cX0_putStep 17 = .ok (.getfield 27, 3) := by decide +kernel
theorem dX0_putStep_20 : decode cX0_putStep 20 = .ok (.iload_n 3, 1) := by decide +kernel
theorem dX0_putStep_21 : decode cX0_putStep 21 = .ok (.iaload, 1) := by decide +kernel
theorem dX0_putStep_22 : decode cX0_putStep 22 = .ok (.iload_n 1, 1) := by decide +kernel
theorem dX0_putStep_23 : decode cX0_putStep 23 = .ok (.if_icmp .eq 9, 3) := by decide +kernel
theorem dX0_putStep_26 : decode cX0_putStep 26 = .ok (.iinc 3 1, 3) := by decide +kernel
theorem dX0_putStep_29 : decode cX0_putStep 29 = .ok (.goto (-27), 3) := by decide +kernel
theorem dX0_putStep_32 : decode cX0_putStep 32 = .ok (.iload_n 3, 1) := by decide +kernel
theorem dX0_putStep_33 : decode cX0_putStep 33 = .ok (.bipush 6, 2) := by decide +kernel
theorem dX0_putStep_35 : decode cX0_putStep 35 = .ok (.if_icmp .lt 5, 3) := by decide +kernel
theorem dX0_putStep_38 : decode cX0_putStep 38 = .ok (.iconst 0, 1) := by decide +kernel
theorem dX0_putStep_39 : decode cX0_putStep 39 = .ok (.ireturn, 1) := by decide +kernel
theorem dX0_putStep_40 : decode cX0_putStep 40 = .ok (.aload_n 0, 1) := by decide +kernel
theorem dX0_putStep_41 : decode cX0_putStep 41 = .ok (.getfield 27, 3) := by decide +kernel
theorem dX0_putStep_44 : decode cX0_putStep 44 = .ok (.iload_n 3, 1) := by decide +kernel
theorem dX0_putStep_45 : decode cX0_putStep 45 = .ok (.iload_n 1, 1) := by decide +kernel
theorem dX0_putStep_46 : decode cX0_putStep 46 = .ok (.iastore, 1) := by decide +kernel
theorem dX0_putStep_47 : decode cX0_putStep 47 = .ok (.aload_n 0, 1) := by decide +kernel
theorem dX0_putStep_48 : decode cX0_putStep 48 = .ok (.getfield 31, 3) := by decide +kernel
theorem dX0_putStep_51 : decode cX0_putStep 51 = .ok (.iload_n 3, 1) := by decide +kernel
theorem dX0_putStep_52 : decode cX0_putStep 52 = .ok (.iload_n 2, 1) := by decide +kernel
theorem dX0_putStep_53 : decode cX0_putStep 53 = .ok (.iastore, 1) := by decide +kernel
theorem dX0_putStep_54 : decode cX0_putStep 54 = .ok (.aload_n 0, 1) := by decide +kernel
theorem dX0_putStep_55 : decode cX0_putStep 55 = .ok (.aload_n 0, 1) := by decide +kernel
theorem dX0_putStep_56 : decode cX0_putStep 56 = .ok (.getfield 34, 3) := by decide +kernel
theorem dX0_putStep_59 : decode cX0_putStep 59 = .ok (.iload_n 3, 1) := by decide +kernel
theorem dX0_putStep_60 : decode cX0_putStep 60 = .ok (.iconst 1, 1) := by decide +kernel
theorem dX0_putStep_61 : decode cX0_putStep 61 = .ok (.iadd, 1) := by decide +kernel
theorem dX0_putStep_62 : decode cX0_putStep 62 = .ok (.invokestatic 55, 3) := by decide +kernel
theorem dX0_putStep_65 : decode cX0_putStep 65 = .ok (.putfield 34, 3) := by decide +kernel
theorem dX0_putStep_68 : decode cX0_putStep 68 = .ok (.iconst 1, 1) := by decide +kernel
theorem dX0_putStep_69 : decode cX0_putStep 69 = .ok (.ireturn, 1) := by decide +kernel
theorem dX0_agreedOn_0 : decode cX0_agreedOn 0 = .ok (.aload_n 0, 1) := by decide +kernel
theorem dX0_agreedOn_1 : decode cX0_agreedOn 1 = .ok (.getfield 40, 3) := by decide +kernel
theorem dX0_agreedOn_4 : decode cX0_agreedOn 4 = .ok (.istore_n 2, 1) := by decide +kernel
theorem dX0_agreedOn_5 : decode cX0_agreedOn 5 = .ok (.aload_n 0, 1) := by decide +kernel
theorem dX0_agreedOn_6 : decode cX0_agreedOn 6 = .ok (.getfield 46, 3) := by decide +kernel
theorem dX0_agreedOn_9 : decode cX0_agreedOn 9 = .ok (.istore_n 3, 1) := by decide +kernel
theorem dX0_agreedOn_10 : decode cX0_agreedOn 10 = .ok (.iconst 0, 1) := by decide +kernel
theorem dX0_agreedOn_11 : decode cX0_agreedOn 11 = .ok (.istore 4, 2) := by decide +kernel
theorem dX0_agreedOn_13 : decode cX0_agreedOn 13 = .ok (.iload 4, 2) := by decide +kernel
theorem dX0_agreedOn_15 : decode cX0_agreedOn 15 = .ok (.aload_n 0, 1) := by decide +kernel
theorem dX0_agreedOn_16 : decode cX0_agreedOn 16 = .ok (.getfield 34, 3) := by decide +kernel
theorem dX0_agreedOn_19 : decode cX0_agreedOn 19 = .ok (.if_icmp .ge 54, 3) := by decide +kernel
theorem dX0_agreedOn_22 : decode cX0_agreedOn 22 = .ok (.iload 4, 2) := by decide +kernel
theorem dX0_agreedOn_24 : decode cX0_agreedOn 24 = .ok (.bipush 6, 2) := by decide +kernel
theorem dX0_agreedOn_26 : decode cX0_agreedOn 26 = .ok (.if_icmp .ge 47, 3) := by decide +kernel
theorem dX0_agreedOn_29 : decode cX0_agreedOn 29 = .ok (.aload_n 0, 1) := by decide +kernel
theorem dX0_agreedOn_30 : decode cX0_agreedOn 30 = .ok (.getfield 27, 3) := by decide +kernel
theorem dX0_agreedOn_33 : decode cX0_agreedOn 33 = .ok (.iload 4, 2) := by decide +kernel
theorem dX0_agreedOn_35 : decode cX0_agreedOn 35 = .ok (.iaload, 1) := by decide +kernel
theorem dX0_agreedOn_36 : decode cX0_agreedOn 36 = .ok (.iload_n 1, 1) := by decide +kernel
theorem dX0_agreedOn_37 : decode cX0_agreedOn 37 = .ok (.if_icmp .gt 30, 3) := by decide +kernel
theorem dX0_agreedOn_40 : decode cX0_agreedOn 40 = .ok (.aload_n 0, 1) := by decide +kernel
theorem dX0_agreedOn_41 : decode cX0_agreedOn 41 = .ok (.getfield 27, 3) := by decide +kernel
theorem dX0_agreedOn_44 : decode cX0_agreedOn 44 = .ok (.iload 4, 2) := by decide +kernel
theorem dX0_agreedOn_46 : decode cX0_agreedOn 46 = .ok (.iaload, 1) := by decide +kernel
theorem dX0_agreedOn_47 : decode cX0_agreedOn 47 = .ok (.iload_n 2, 1) := by decide +kernel
theorem dX0_agreedOn_48 : decode cX0_agreedOn 48 = .ok (.if_icmp .le 19, 3) := by decide +kernel
theorem dX0_agreedOn_51 : decode cX0_agreedOn 51 = .ok (.aload_n 0, 1) := by decide +kernel
theorem dX0_agreedOn_52 : decode cX0_agreedOn 52 = .ok (.getfield 27, 3) := by decide +kernel
theorem dX0_agreedOn_55 : decode cX0_agreedOn 55 = .ok (.iload 4, 2) := by decide +kernel
theorem dX0_agreedOn_57 : decode cX0_agreedOn 57 = .ok (.iaload, 1) := by decide +kernel
theorem dX0_agreedOn_58 : decode cX0_agreedOn 58 = .ok (.istore_n 2, 1) := by decide +kernel
theorem dX0_agreedOn_59 : decode cX0_agreedOn 59 = .ok (.aload_n 0, 1) := by decide +kernel
theorem dX0_agreedOn_60 : decode cX0_agreedOn 60 = .ok (.getfield 31, 3) := by decide +kernel
theorem dX0_agreedOn_63 : decode cX0_agreedOn 63 = .ok (.iload 4, 2) := by decide +kernel
theorem dX0_agreedOn_65 : decode cX0_agreedOn 65 = .ok (.iaload, 1) := by decide +kernel
theorem dX0_agreedOn_66 : decode cX0_agreedOn 66 = .ok (.istore_n 3, 1) := by decide +kernel
theorem dX0_agreedOn_67 : decode cX0_agreedOn 67 = .ok (.iinc 4 1, 3) := by decide +kernel
theorem dX0_agreedOn_70 : decode cX0_agreedOn 70 = .ok (.goto (-57), 3) := by decide +kernel
theorem dX0_agreedOn_73 : decode cX0_agreedOn 73 = .ok (.iload_n 3, 1) := by decide +kernel
theorem dX0_agreedOn_74 : decode cX0_agreedOn 74 = .ok (.ireturn, 1) := by decide +kernel
theorem dX0_reviewsUpTo_0 : decode cX0_reviewsUpTo 0 = .ok (.aload_n 0, 1) := by decide +kernel
theorem dX0_reviewsUpTo_1 : decode cX0_reviewsUpTo 1 = .ok (.getfield 15, 3) := by decide +kernel
theorem dX0_reviewsUpTo_4 : decode cX0_reviewsUpTo 4 = .ok (.ifCond .le 25, 3) := by decide +kernel
theorem dX0_reviewsUpTo_7 : decode cX0_reviewsUpTo 7 = .ok (.iload_n 1, 1) := by decide +kernel
theorem dX0_reviewsUpTo_8 : decode cX0_reviewsUpTo 8 = .ok (.aload_n 0, 1) := by decide +kernel
theorem dX0_reviewsUpTo_9 : decode cX0_reviewsUpTo 9 = .ok (.getfield 40, 3) := by decide +kernel
theorem dX0_reviewsUpTo_12 : decode cX0_reviewsUpTo 12 = .ok (.if_icmp .le 17, 3) := by decide +kernel
theorem dX0_reviewsUpTo_15 : decode cX0_reviewsUpTo 15 = .ok (.iload_n 1, 1) := by decide +kernel
theorem dX0_reviewsUpTo_16 : decode cX0_reviewsUpTo 16 = .ok (.aload_n 0, 1) := by decide +kernel
theorem dX0_reviewsUpTo_17 : decode cX0_reviewsUpTo 17 = .ok (.getfield 40, 3) := by decide +kernel
theorem dX0_reviewsUpTo_20 : decode cX0_reviewsUpTo 20 = .ok (.isub, 1) := by decide +kernel
theorem dX0_reviewsUpTo_21 : decode cX0_reviewsUpTo 21 = .ok (.aload_n 0, 1) := by decide +kernel
theorem dX0_reviewsUpTo_22 : decode cX0_reviewsUpTo 22 = .ok (.getfield 15, 3) := by decide +kernel
theorem dX0_reviewsUpTo_25 : decode cX0_reviewsUpTo 25 = .ok (.idiv, 1) := by decide +kernel
theorem dX0_reviewsUpTo_26 : decode cX0_reviewsUpTo 26 = .ok (.goto 4, 3) := by decide +kernel
theorem dX0_reviewsUpTo_29 : decode cX0_reviewsUpTo 29 = .ok (.iconst 0, 1) := by decide +kernel
theorem dX0_reviewsUpTo_30 : decode cX0_reviewsUpTo 30 = .ok (.ireturn, 1) := by decide +kernel
set_option maxRecDepth 20000 in
theorem ggX0_nextTurn_X0_sooner : GoodIn wsX0_nextTurn wsX0_sooner := goodIn_r _ [10] (by decide +kernel) (by decide +kernel)
set_option maxRecDepth 20000 in
theorem gX0_nextTurn_X0_sooner : GoodIn wsX0_nextTurn (va_wsS RX0 61 yX0_sooner wsX0_sooner) := goodIn_app (goodIn_of _ (by decide +kernel)) ggX0_nextTurn_X0_sooner
set_option maxRecDepth 20000 in
theorem ggX0_nextTurn_X0_reviewsUpTo : GoodIn wsX0_nextTurn wsX0_reviewsUpTo := goodIn_r _ [14, 6, 1, 15, 16, 17, 18, 19, 20, 21, 22, 23, 24, 25, 26] (by decide +kernel) (by decide +kernel)
set_option maxRecDepth 20000 in
theorem gX0_nextTurn_X0_reviewsUpTo : GoodIn wsX0_nextTurn (wsV RX0 65 RX0 yX0_reviewsUpTo wsX0_reviewsUpTo) := goodIn_app (goodIn_of _ (by decide +kernel)) ggX0_nextTurn_X0_reviewsUpTo
theorem dX0_nextTurn_0 : decode cX0_nextTurn 0 = .ok (.iload_n 1, 1) := by decide +kernel
theorem dX0_nextTurn_1 : decode cX0_nextTurn 1 = .ok (.aload_n 0, 1) := by decide +kernel
theorem dX0_nextTurn_2 : decode cX0_nextTurn 2 = .ok (.getfield 40, 3) := by decide +kernel
theorem dX0_nextTurn_5 : decode cX0_nextTurn 5 = .ok (.sipush 7200, 3) := by decide +kernel
theorem dX0_nextTurn_8 : decode cX0_nextTurn 8 = .ok (.invokestatic 61, 3) := by decide +kernel
theorem dX0_nextTurn_11 : decode cX0_nextTurn 11 = .ok (.istore_n 2, 1) := by decide +kernel
theorem dX0_nextTurn_12 : decode cX0_nextTurn 12 = .ok (.iload_n 1, 1) := by decide +kernel
theorem dX0_nextTurn_13 : decode cX0_nextTurn 13 = .ok (.aload_n 0, 1) := by decide +kernel
theorem dX0_nextTurn_14 : decode cX0_nextTurn 14 = .ok (.getfield 40, 3) := by decide +kernel
theorem dX0_nextTurn_17 : decode cX0_nextTurn 17 = .ok (.aload_n 0, 1) := by decide +kernel
theorem dX0_nextTurn_18 : decode cX0_nextTurn 18 = .ok (.getfield 9, 3) := by decide +kernel
theorem dX0_nextTurn_21 : decode cX0_nextTurn 21 = .ok (.iadd, 1) := by decide +kernel
theorem dX0_nextTurn_22 : decode cX0_nextTurn 22 = .ok (.iload_n 2, 1) := by decide +kernel
theorem dX0_nextTurn_23 : decode cX0_nextTurn 23 = .ok (.invokestatic 61, 3) := by decide +kernel
theorem dX0_nextTurn_26 : decode cX0_nextTurn 26 = .ok (.istore_n 2, 1) := by decide +kernel
theorem dX0_nextTurn_27 : decode cX0_nextTurn 27 = .ok (.iload_n 1, 1) := by decide +kernel
theorem dX0_nextTurn_28 : decode cX0_nextTurn 28 = .ok (.aload_n 0, 1) := by decide +kernel
theorem dX0_nextTurn_29 : decode cX0_nextTurn 29 = .ok (.getfield 43, 3) := by decide +kernel
theorem dX0_nextTurn_32 : decode cX0_nextTurn 32 = .ok (.iload_n 2, 1) := by decide +kernel
theorem dX0_nextTurn_33 : decode cX0_nextTurn 33 = .ok (.invokestatic 61, 3) := by decide +kernel
theorem dX0_nextTurn_36 : decode cX0_nextTurn 36 = .ok (.istore_n 2, 1) := by decide +kernel
theorem dX0_nextTurn_37 : decode cX0_nextTurn 37 = .ok (.iconst 0, 1) := by decide +kernel
theorem dX0_nextTurn_38 : decode cX0_nextTurn 38 = .ok (.istore_n 3, 1) := by decide +kernel
theorem dX0_nextTurn_39 : decode cX0_nextTurn 39 = .ok (.iload_n 3, 1) := by decide +kernel
theorem dX0_nextTurn_40 : decode cX0_nextTurn 40 = .ok (.aload_n 0, 1) := by decide +kernel
theorem dX0_nextTurn_41 : decode cX0_nextTurn 41 = .ok (.getfield 34, 3) := by decide +kernel
theorem dX0_nextTurn_44 : decode cX0_nextTurn 44 = .ok (.if_icmp .ge 27, 3) := by decide +kernel
theorem dX0_nextTurn_47 : decode cX0_nextTurn 47 = .ok (.iload_n 3, 1) := by decide +kernel
theorem dX0_nextTurn_48 : decode cX0_nextTurn 48 = .ok (.bipush 6, 2) := by decide +kernel
theorem dX0_nextTurn_50 : decode cX0_nextTurn 50 = .ok (.if_icmp .ge 21, 3) := by decide +kernel
theorem dX0_nextTurn_53 : decode cX0_nextTurn 53 = .ok (.iload_n 1, 1) := by decide +kernel
theorem dX0_nextTurn_54 : decode cX0_nextTurn 54 = .ok (.aload_n 0, 1) := by decide +kernel
theorem dX0_nextTurn_55 : decode cX0_nextTurn 55 = .ok (.getfield 27, 3) := by decide +kernel
theorem dX0_nextTurn_58 : decode cX0_nextTurn 58 = .ok (.iload_n 3, 1) := by decide +kernel
theorem dX0_nextTurn_59 : decode cX0_nextTurn 59 = .ok (.iaload, 1) := by decide +kernel
theorem dX0_nextTurn_60 : decode cX0_nextTurn 60 = .ok (.iload_n 2, 1) := by decide +kernel
theorem dX0_nextTurn_61 : decode cX0_nextTurn 61 = .ok (.invokestatic 61, 3) := by decide +kernel
theorem dX0_nextTurn_64 : decode cX0_nextTurn 64 = .ok (.istore_n 2, 1) := by decide +kernel
theorem dX0_nextTurn_65 : decode cX0_nextTurn 65 = .ok (.iinc 3 1, 3) := by decide +kernel
theorem dX0_nextTurn_68 : decode cX0_nextTurn 68 = .ok (.goto (-29), 3) := by decide +kernel
theorem dX0_nextTurn_71 : decode cX0_nextTurn 71 = .ok (.aload_n 0, 1) := by decide +kernel
theorem dX0_nextTurn_72 : decode cX0_nextTurn 72 = .ok (.getfield 15, 3) := by decide +kernel
theorem dX0_nextTurn_75 : decode cX0_nextTurn 75 = .ok (.ifCond .le 26, 3) := by decide +kernel
theorem dX0_nextTurn_78 : decode cX0_nextTurn 78 = .ok (.iload_n 1, 1) := by decide +kernel
theorem dX0_nextTurn_79 : decode cX0_nextTurn 79 = .ok (.aload_n 0, 1) := by decide +kernel
theorem dX0_nextTurn_80 : decode cX0_nextTurn 80 = .ok (.getfield 40, 3) := by decide +kernel
theorem dX0_nextTurn_83 : decode cX0_nextTurn 83 = .ok (.aload_n 0, 1) := by decide +kernel
theorem dX0_nextTurn_84 : decode cX0_nextTurn 84 = .ok (.iload_n 1, 1) := by decide +kernel
theorem dX0_nextTurn_85 : decode cX0_nextTurn 85 = .ok (.invokevirtual 65, 3) := by decide +kernel
theorem dX0_nextTurn_88 : decode cX0_nextTurn 88 = .ok (.iconst 1, 1) := by decide +kernel
theorem dX0_nextTurn_89 : decode cX0_nextTurn 89 = .ok (.iadd, 1) := by decide +kernel
theorem dX0_nextTurn_90 : decode cX0_nextTurn 90 = .ok (.aload_n 0, 1) := by decide +kernel
theorem dX0_nextTurn_91 : decode cX0_nextTurn 91 = .ok (.getfield 15, 3) := by decide +kernel
theorem dX0_nextTurn_94 : decode cX0_nextTurn 94 = .ok (.imul, 1) := by decide +kernel
theorem dX0_nextTurn_95 : decode cX0_nextTurn 95 = .ok (.iadd, 1) := by decide +kernel
theorem dX0_nextTurn_96 : decode cX0_nextTurn 96 = .ok (.iload_n 2, 1) := by decide +kernel
theorem dX0_nextTurn_97 : decode cX0_nextTurn 97 = .ok (.invokestatic 61, 3) := by decide +kernel
theorem dX0_nextTurn_100 : decode cX0_nextTurn 100 = .ok (.istore_n 2, 1) := by decide +kernel
theorem dX0_nextTurn_101 : decode cX0_nextTurn 101 = .ok (.iload_n 2, 1) := by decide +kernel
theorem dX0_nextTurn_102 : decode cX0_nextTurn 102 = .ok (.ireturn, 1) := by decide +kernel
theorem dX0_sooner_0 : decode cX0_sooner 0 = .ok (.iload_n 1, 1) := by decide +kernel
theorem dX0_sooner_1 : decode cX0_sooner 1 = .ok (.iload_n 0, 1) := by decide +kernel
theorem dX0_sooner_2 : decode cX0_sooner 2 = .ok (.if_icmp .le 12, 3) := by decide +kernel
theorem dX0_sooner_5 : decode cX0_sooner 5 = .ok (.iload_n 1, 1) := by decide +kernel
theorem dX0_sooner_6 : decode cX0_sooner 6 = .ok (.iload_n 2, 1) := by decide +kernel
theorem dX0_sooner_7 : decode cX0_sooner 7 = .ok (.if_icmp .ge 7, 3) := by decide +kernel
theorem dX0_sooner_10 : decode cX0_sooner 10 = .ok (.iload_n 1, 1) := by decide +kernel
theorem dX0_sooner_11 : decode cX0_sooner 11 = .ok (.goto 4, 3) := by decide +kernel
theorem dX0_sooner_14 : decode cX0_sooner 14 = .ok (.iload_n 2, 1) := by decide +kernel
theorem dX0_sooner_15 : decode cX0_sooner 15 = .ok (.ireturn, 1) := by decide +kernel
theorem dX1_init_0 : decode cX1_init 0 = .ok (.aload_n 0, 1) := by decide +kernel
theorem dX1_init_1 : decode cX1_init 1 = .ok (.invokespecial 1, 3) := by decide +kernel
theorem dX1_init_4 : decode cX1_init 4 = .ok (.aload_n 0, 1) := by decide +kernel
theorem dX1_init_5 : decode cX1_init 5 = .ok (.bipush 6, 2) := by decide +kernel
theorem dX1_init_7 : decode cX1_init 7 = .ok (.newarray .int, 2) := by decide +kernel
theorem dX1_init_9 : decode cX1_init 9 = .ok (.putfield 9, 3) := by decide +kernel
theorem dX1_init_12 : decode cX1_init 12 = .ok (.aload_n 0, 1) := by decide +kernel
theorem dX1_init_13 : decode cX1_init 13 = .ok (.sipush 240, 3) := by decide +kernel
theorem dX1_init_16 : decode cX1_init 16 = .ok (.newarray .int, 2) := by decide +kernel
theorem dX1_init_18 : decode cX1_init 18 = .ok (.putfield 13, 3) := by decide +kernel
theorem dX1_init_21 : decode cX1_init 21 = .ok (.aload_n 0, 1) := by decide +kernel
theorem dX1_init_22 : decode cX1_init 22 = .ok (.bipush 20, 2) := by decide +kernel
theorem dX1_init_24 : decode cX1_init 24 = .ok (.newarray .int, 2) := by decide +kernel
theorem dX1_init_26 : decode cX1_init 26 = .ok (.putfield 16, 3) := by decide +kernel
theorem dX1_init_29 : decode cX1_init 29 = .ok (.aload_n 0, 1) := by decide +kernel
theorem dX1_init_30 : decode cX1_init 30 = .ok (.bipush 24, 2) := by decide +kernel
theorem dX1_init_32 : decode cX1_init 32 = .ok (.anewarray 19, 3) := by decide +kernel
theorem dX1_init_35 : decode cX1_init 35 = .ok (.putfield 21, 3) := by decide +kernel
theorem dX1_init_38 : decode cX1_init 38 = .ok (.aload_n 0, 1) := by decide +kernel
theorem dX1_init_39 : decode cX1_init 39 = .ok (.iconst 0, 1) := by decide +kernel
theorem dX1_init_40 : decode cX1_init 40 = .ok (.putfield 25, 3) := by decide +kernel
theorem dX1_init_43 : decode cX1_init 43 = .ok (.iconst 0, 1) := by decide +kernel
theorem dX1_init_44 : decode cX1_init 44 = .ok (.istore_n 1, 1) := by decide +kernel
theorem dX1_init_45 : decode cX1_init 45 = .ok (.iload_n 1, 1) := by decide +kernel
theorem dX1_init_46 : decode cX1_init 46 = .ok (.aload_n 0, 1) := by decide +kernel
theorem dX1_init_47 : decode cX1_init 47 = .ok (.getfield 13, 3) := by decide +kernel
theorem dX1_init_50 : decode cX1_init 50 = .ok (.arraylength, 1) := by decide +kernel
theorem dX1_init_51 : decode cX1_init 51 = .ok (.if_icmp .ge 17, 3) := by decide +kernel
theorem dX1_init_54 : decode cX1_init 54 = .ok (.aload_n 0, 1) := by decide +kernel
theorem dX1_init_55 : decode cX1_init 55 = .ok (.getfield 13, 3) := by decide +kernel
theorem dX1_init_58 : decode cX1_init 58 = .ok (.iload_n 1, 1) := by decide +kernel
theorem dX1_init_59 : decode cX1_init 59 = .ok (.bipush 100, 2) := by decide +kernel
theorem dX1_init_61 : decode cX1_init 61 = .ok (.iastore, 1) := by decide +kernel
theorem dX1_init_62 : decode cX1_init 62 = .ok (.iinc 1 1, 3) := by decide +kernel
theorem dX1_init_65 : decode cX1_init 65 = .ok (.goto (-20), 3) := by decide +kernel
theorem dX1_init_68 : decode cX1_init 68 = .ok (.return_, 1) := by decide +kernel
set_option maxRecDepth 20000 in
theorem ggX1_setArea_X1_checkNumber : GoodIn wsX1_setArea wsX1_checkNumber := goodIn_ca (goodIn_r _ [5, 6, 7] (by decide +kernel) (by decide +kernel)) (goodIn_sub (fun _ h => List.mem_cons_of_mem _ (List.mem_append_left _ (List.mem_append_right _ h))) (by decide +kernel))
set_option maxRecDepth 20000 in
theorem gX1_setArea_X1_checkNumber : GoodIn wsX1_setArea (va_wsS RX1 29 yX1_checkNumber wsX1_checkNumber) := goodIn_app (goodIn_of _ (by decide +kernel)) ggX1_setArea_X1_checkNumber
set_option maxRecDepth 20000 in
theorem ggX1_setArea_X1_checkRange : GoodIn wsX1_setArea wsX1_checkRange := goodIn_ca (goodIn_r _ [10, 11, 12] (by decide +kernel) (by decide +kernel)) (goodIn_sub (fun _ h => List.mem_cons_of_mem _ (List.mem_append_right _ h)) (by decide +kernel))
set_option maxRecDepth 20000 in
theorem gX1_setArea_X1_checkRange : GoodIn wsX1_setArea (va_wsS RX1 33 yX1_checkRange wsX1_checkRange) := goodIn_app (goodIn_of _ (by decide +kernel)) ggX1_setArea_X1_checkRange
theorem dX1_setArea_0 : decode cX1_setArea 0 = .ok (.iload_n 1, 1) := by decide +kernel
theorem dX1_setArea_1 : decode cX1_setArea 1 = .ok (.aload_n 0, 1) := by decide +kernel
theorem dX1_setArea_2 : decode cX1_setArea 2 = .ok (.getfield 9, 3) := by decide +kernel
theorem dX1_setArea_5 : decode cX1_setArea 5 = .ok (.arraylength, 1) := by decide +kernel
theorem dX1_setArea_6 : decode cX1_setArea 6 = .ok (.invokestatic 29, 3) := by decide +kernel
theorem dX1_setArea_9 : decode cX1_setArea 9 = .ok (.iload_n 2, 1) := by decide +kernel
theorem dX1_setArea_10 : decode cX1_setArea 10 = .ok (.iconst 0, 1) := by decide +kernel
theorem dX1_setArea_11 : decode cX1_setArea 11 = .ok (.sipush 999, 3) := by decide +kernel
theorem dX1_setArea_14 : decode cX1_setArea 14 = .ok (.invokestatic 33, 3) := by decide +kernel
theorem dX1_setArea_17 : decode cX1_setArea 17 = .ok (.aload_n 0, 1) := by decide +kernel
theorem dX1_setArea_18 : decode cX1_setArea 18 = .ok (.getfield 9, 3) := by decide +kernel
theorem dX1_setArea_21 : decode cX1_setArea 21 = .ok (.iload_n 1, 1) := by decide +kernel
theorem dX1_setArea_22 : decode cX1_setArea 22 = .ok (.iaload, 1) := by decide +kernel
theorem dX1_setArea_23 : decode cX1_setArea 23 = .ok (.istore_n 3, 1) := by decide +kernel
theorem dX1_setArea_24 : decode cX1_setArea 24 = .ok (.aload_n 0, 1) := by decide +kernel
theorem dX1_setArea_25 : decode cX1_setArea 25 = .ok (.getfield 9, 3) := by decide +kernel
theorem dX1_setArea_28 : decode cX1_setArea 28 = .ok (.iload_n 1, 1) := by decide +kernel
theorem dX1_setArea_29 : decode cX1_setArea 29 = .ok (.iload_n 2, 1) := by decide +kernel
theorem dX1_setArea_30 : decode cX1_setArea 30 = .ok (.iastore, 1) := by decide +kernel
theorem dX1_setArea_31 : decode cX1_setArea 31 = .ok (.iload_n 3, 1) := by decide +kernel
theorem dX1_setArea_32 : decode cX1_setArea 32 = .ok (.ireturn, 1) := by decide +kernel
set_option maxRecDepth 20000 in
theorem ggX1_setIndex_X1_checkNumber : GoodIn wsX1_setIndex wsX1_checkNumber := goodIn_ca (goodIn_r _ [5, 6, 7] (by decide +kernel) (by decide +kernel)) (goodIn_sub (fun _ h => List.mem_cons_of_mem _ (List.mem_append_left _ (List.mem_append_right _ h))) (by decide +kernel))
set_option maxRecDepth 20000 in
theorem gX1_setIndex_X1_checkNumber : GoodIn wsX1_setIndex (va_wsS RX1 29 yX1_checkNumber wsX1_checkNumber) := goodIn_app (goodIn_of _ (by decide +kernel)) ggX1_setIndex_X1_checkNumber
set_option maxRecDepth 20000 in
theorem ggX1_setIndex_X1_checkRange : GoodIn wsX1_setIndex wsX1_checkRange := goodIn_ca (goodIn_r _ [10, 11, 12] (by decide +kernel) (by decide +kernel)) (goodIn_sub (fun _ h => List.mem_cons_of_mem _ (List.mem_append_right _ h)) (by decide +kernel))
set_option maxRecDepth 20000 in
theorem gX1_setIndex_X1_checkRange : GoodIn wsX1_setIndex (va_wsS RX1 33 yX1_checkRange wsX1_checkRange) := goodIn_app (goodIn_of _ (by decide +kernel)) ggX1_setIndex_X1_checkRange
theorem dX1_setIndex_0 : decode cX1_setIndex 0 = .ok (.iload_n 1, 1) := by decide +kernel
theorem dX1_setIndex_1 : decode cX1_setIndex 1 = .ok (.aload_n 0, 1) := by decide +kernel
theorem dX1_setIndex_2 : decode cX1_setIndex 2 = .ok (.getfield 13, 3) := by decide +kernel
theorem dX1_setIndex_5 : decode cX1_setIndex 5 = .ok (.arraylength, 1) := by decide +kernel
theorem dX1_setIndex_6 : decode cX1_setIndex 6 = .ok (.invokestatic 29, 3) := by decide +kernel
theorem dX1_setIndex_9 : decode cX1_setIndex 9 = .ok (.iload_n 2, 1) := by decide +kernel
theorem dX1_setIndex_10 : decode cX1_setIndex 10 = .ok (.bipush 10, 2) := by decide +kernel
theorem dX1_setIndex_12 : decode cX1_setIndex 12 = .ok (.sipush 999, 3) := by decide +kernel
theorem dX1_setIndex_15 : decode cX1_setIndex 15 = .ok (.invokestatic 33, 3) := by decide +kernel
theorem dX1_setIndex_18 : decode cX1_setIndex 18 = .ok (.aload_n 0, 1) := by decide +kernel
theorem dX1_setIndex_19 : decode cX1_setIndex 19 = .ok (.getfield 13, 3) := by decide +kernel
theorem dX1_setIndex_22 : decode cX1_setIndex 22 = .ok (.iload_n 1, 1) := by decide +kernel
theorem dX1_setIndex_23 : decode cX1_setIndex 23 = .ok (.iaload, 1) := by decide +kernel
theorem dX1_setIndex_24 : decode cX1_setIndex 24 = .ok (.istore_n 3, 1) := by decide +kernel
theorem dX1_setIndex_25 : decode cX1_setIndex 25 = .ok (.aload_n 0, 1) := by decide +kernel
theorem dX1_setIndex_26 : decode cX1_setIndex 26 = .ok (.getfield 13, 3) := by decide +kernel
theorem dX1_setIndex_29 : decode cX1_setIndex 29 = .ok (.iload_n 1, 1) := by decide +kernel
theorem dX1_setIndex_30 : decode cX1_setIndex 30 = .ok (.iload_n 2, 1) := by decide +kernel
theorem dX1_setIndex_31 : decode cX1_setIndex 31 = .ok (.iastore, 1) := by decide +kernel
theorem dX1_setIndex_32 : decode cX1_setIndex 32 = .ok (.iload_n 3, 1) := by decide +kernel
theorem dX1_setIndex_33 : decode cX1_setIndex 33 = .ok (.ireturn, 1) := by decide +kernel
set_option maxRecDepth 20000 in
theorem ggX1_setCost_X1_checkNumber : GoodIn wsX1_setCost wsX1_checkNumber := goodIn_ca (goodIn_r _ [6, 7, 8] (by decide +kernel) (by decide +kernel)) (goodIn_sub (fun _ h => List.mem_cons_of_mem _ (List.mem_append_left _ (List.mem_append_right _ h))) (by decide +kernel))
set_option maxRecDepth 20000 in
theorem gX1_setCost_X1_checkNumber : GoodIn wsX1_setCost (va_wsS RX1 29 yX1_checkNumber wsX1_checkNumber) := goodIn_app (goodIn_of _ (by decide +kernel)) ggX1_setCost_X1_checkNumber
set_option maxRecDepth 20000 in
theorem ggX1_setCost_X1_checkRange : GoodIn wsX1_setCost wsX1_checkRange := goodIn_ca (goodIn_r _ [11, 12, 13] (by decide +kernel) (by decide +kernel)) (goodIn_sub (fun _ h => List.mem_cons_of_mem _ (List.mem_append_right _ h)) (by decide +kernel))
set_option maxRecDepth 20000 in
theorem gX1_setCost_X1_checkRange : GoodIn wsX1_setCost (va_wsS RX1 33 yX1_checkRange wsX1_checkRange) := goodIn_app (goodIn_of _ (by decide +kernel)) ggX1_setCost_X1_checkRange
theorem dX1_setCost_0 : decode cX1_setCost 0 = .ok (.iload_n 1, 1) := by decide +kernel
theorem dX1_setCost_1 : decode cX1_setCost 1 = .ok (.aload_n 0, 1) := by decide +kernel
theorem dX1_setCost_2 : decode cX1_setCost 2 = .ok (.getfield 16, 3) := by decide +kernel
theorem dX1_setCost_5 : decode cX1_setCost 5 = .ok (.arraylength, 1) := by decide +kernel
theorem dX1_setCost_6 : decode cX1_setCost 6 = .ok (.invokestatic 29, 3) := by decide +kernel
theorem dX1_setCost_9 : decode cX1_setCost 9 = .ok (.iload_n 2, 1) := by decide +kernel
theorem dX1_setCost_10 : decode cX1_setCost 10 = .ok (.iconst 0, 1) := by decide +kernel
theorem dX1_setCost_11 : decode cX1_setCost 11 = .ok (.ldc 37, 2) := by decide +kernel
theorem dX1_setCost_13 : decode cX1_setCost 13 = .ok (.invokestatic 33, 3) := by decide +kernel
theorem dX1_setCost_16 : decode cX1_setCost 16 = .ok (.aload_n 0, 1) := by decide +kernel
theorem dX1_setCost_17 : decode cX1_setCost 17 = .ok (.getfield 16, 3) := by decide +kernel
theorem dX1_setCost_20 : decode cX1_setCost 20 = .ok (.iload_n 1, 1) := by decide +kernel
theorem dX1_setCost_21 : decode cX1_setCost 21 = .ok (.iaload, 1) := by decide +kernel
theorem dX1_setCost_22 : decode cX1_setCost 22 = .ok (.istore_n 3, 1) := by decide +kernel
theorem dX1_setCost_23 : decode cX1_setCost 23 = .ok (.aload_n 0, 1) := by decide +kernel
theorem dX1_setCost_24 : decode cX1_setCost 24 = .ok (.getfield 16, 3) := by decide +kernel
theorem dX1_setCost_27 : decode cX1_setCost 27 = .ok (.iload_n 1, 1) := by decide +kernel
theorem dX1_setCost_28 : decode cX1_setCost 28 = .ok (.iload_n 2, 1) := by decide +kernel
theorem dX1_setCost_29 : decode cX1_setCost 29 = .ok (.iastore, 1) := by decide +kernel
theorem dX1_setCost_30 : decode cX1_setCost 30 = .ok (.iload_n 3, 1) := by decide +kernel
theorem dX1_setCost_31 : decode cX1_setCost 31 = .ok (.ireturn, 1) := by decide +kernel
set_option maxRecDepth 20000 in
theorem ggX1_let_X1_checkNumber : GoodIn wsX1_let wsX1_checkNumber := goodIn_ca (goodIn_r _ [13, 14, 15] (by decide +kernel) (by decide +kernel)) (goodIn_sub (fun _ h => List.mem_cons_of_mem _ (List.mem_append_left _ (List.mem_append_right _ h))) (by decide +kernel))
set_option maxRecDepth 20000 in
theorem gX1_let_X1_checkNumber : GoodIn wsX1_let (va_wsS RX1 29 yX1_checkNumber wsX1_checkNumber) := goodIn_app (goodIn_of _ (by decide +kernel)) ggX1_let_X1_checkNumber
set_option maxRecDepth 20000 in
theorem ggX1_let_X1_checkRange : GoodIn wsX1_let wsX1_checkRange := goodIn_ca (goodIn_r _ [18, 19, 20] (by decide +kernel) (by decide +kernel)) (goodIn_sub (fun _ h => List.mem_cons_of_mem _ (List.mem_append_right _ h)) (by decide +kernel))
set_option maxRecDepth 20000 in
theorem gX1_let_X1_checkRange : GoodIn wsX1_let (va_wsS RX1 33 yX1_checkRange wsX1_checkRange) := goodIn_app (goodIn_of _ (by decide +kernel)) ggX1_let_X1_checkRange
set_option maxRecDepth 20000 in
theorem ggX1_let_X1_daysLet : GoodIn wsX1_let wsX1_daysLet := goodIn_r _ [24, 6, 25, 26, 27, 9, 28, 29, 30, 31, 32, 33, 34, 35, 36, 37, 55, 56, 57, 58, 59, 60, 61, 62, 63, 64, 65, 66, 67, 68, 69, 70, 71] (by decide +kernel) (by decide +kernel)
set_option maxRecDepth 20000 in
theorem gX1_let_X1_daysLet : GoodIn wsX1_let (wsV RX1 46 RX1 yX1_daysLet wsX1_daysLet) := goodIn_app (goodIn_of _ (by decide +kernel)) ggX1_let_X1_daysLet
set_option maxRecDepth 20000 in
theorem ggX1_let_X0_init : GoodIn wsX1_let wsX0_init := goodIn_r _ [40, 41, 42, 43, 44, 45, 46, 47, 48, 49, 50, 51, 52, 53, 34, 29, 54, 60, 61, 62, 63, 64, 65, 66, 67, 68, 69, 70, 71] (by decide +kernel) (by decide +kernel)
set_option maxRecDepth 20000 in
theorem gX1_let_X0_init : GoodIn wsX1_let (wsX0_init) := ggX1_let_X0_init
theorem dX1_let_0 : decode cX1_let 0 = .ok (.iload_n 1, 1) := by decide +kernel
theorem dX1_let_1 : decode cX1_let 1 = .ok (.aload_n 0, 1) := by decide +kernel
theorem dX1_let_2 : decode cX1_let 2 = .ok (.getfield 9, 3) := by decide +kernel
theorem dX1_let_5 : decode cX1_let 5 = .ok (.arraylength, 1) := by decide +kernel
theorem dX1_let_6 : decode cX1_let 6 = .ok (.invokestatic 29, 3) := by decide +kernel
theorem dX1_let_9 : decode cX1_let 9 = .ok (.iload_n 2, 1) := by decide +kernel
theorem dX1_let_10 : decode cX1_let 10 = .ok (.iconst 0, 1) := by decide +kernel
theorem dX1_let_11 : decode cX1_let 11 = .ok (.sipush 7199, 3) := by decide +kernel
theorem dX1_let_14 : decode cX1_let 14 = .ok (.invokestatic 33, 3) := by decide +kernel
theorem dX1_let_17 : decode cX1_let 17 = .ok (.iload_n 3, 1) := by decide +kernel
theorem dX1_let_18 : decode cX1_let 18 = .ok (.iload_n 2, 1) := by decide +kernel
theorem dX1_let_19 : decode cX1_let 19 = .ok (.iconst 1, 1) := by decide +kernel
theorem dX1_let_20 : decode cX1_let 20 = .ok (.iadd, 1) := by decide +kernel
theorem dX1_let_21 : decode cX1_let 21 = .ok (.sipush 7200, 3) := by decide +kernel
theorem dX1_let_24 : decode cX1_let 24 = .ok (.invokestatic 33, 3) := by decide +kernel
theorem dX1_let_27 : decode cX1_let 27 = .ok (.iload 4, 2) := by decide +kernel
theorem dX1_let_29 : decode cX1_let 29 = .ok (.iconst 1, 1) := by decide +kernel
theorem dX1_let_30 : decode cX1_let 30 = .ok (.ldc 38, 2) := by decide +kernel
theorem dX1_let_32 : decode cX1_let 32 = .ok (.invokestatic 33, 3) := by decide +kernel
theorem dX1_let_35 : decode cX1_let 35 = .ok (.aload_n 0, 1) := by decide +kernel
theorem dX1_let_36 : decode cX1_let 36 = .ok (.getfield 25, 3) := by decide +kernel
theorem dX1_let_39 : decode cX1_let 39 = .ok (.aload_n 0, 1) := by decide +kernel
theorem dX1_let_40 : decode cX1_let 40 = .ok (.getfield 21, 3) := by decide +kernel
theorem dX1_let_43 : decode cX1_let 43 = .ok (.arraylength, 1) := by decide +kernel
theorem dX1_let_44 : decode cX1_let 44 = .ok (.if_icmp .lt 13, 3) := by decide +kernel
theorem dX1_let_47 : decode cX1_let 47 = .ok (.new 39, 3) := by decide +kernel
theorem dX1_let_50 : decode cX1_let 50 = .ok (.dup, 1) := by decide +kernel
theorem dX1_let_51 : decode cX1_let 51 = .ok (.ldc 41, 2) := by decide +kernel
theorem dX1_let_53 : decode cX1_let 53 = .ok (.invokespecial 43, 3) := by decide +kernel
theorem dX1_let_56 : decode cX1_let 56 = .ok (.athrow, 1) := by decide +kernel
theorem dX1_let_57 : decode cX1_let 57 = .ok (.aload_n 0, 1) := by decide +kernel
theorem dX1_let_58 : decode cX1_let 58 = .ok (.iload_n 1, 1) := by decide +kernel
theorem dX1_let_59 : decode cX1_let 59 = .ok (.iload_n 2, 1) := by decide +kernel
theorem dX1_let_60 : decode cX1_let 60 = .ok (.iload_n 3, 1) := by decide +kernel
theorem dX1_let_61 : decode cX1_let 61 = .ok (.invokevirtual 46, 3) := by decide +kernel
theorem dX1_let_64 : decode cX1_let 64 = .ok (.ifCond .le 13, 3) := by decide +kernel
theorem dX1_let_67 : decode cX1_let 67 = .ok (.new 39, 3) := by decide +kernel
theorem dX1_let_70 : decode cX1_let 70 = .ok (.dup, 1) := by decide +kernel
theorem dX1_let_71 : decode cX1_let 71 = .ok (.ldc 50, 2) := by decide +kernel
theorem dX1_let_73 : decode cX1_let 73 = .ok (.invokespecial 43, 3) := by decide +kernel
theorem dX1_let_76 : decode cX1_let 76 = .ok (.athrow, 1) := by decide +kernel
theorem dX1_let_77 : decode cX1_let 77 = .ok (.aload_n 0, 1) := by decide +kernel
theorem dX1_let_78 : decode cX1_let 78 = .ok (.getfield 25, 3) := by decide +kernel
theorem dX1_let_81 : decode cX1_let 81 = .ok (.istore 5, 2) := by decide +kernel
theorem dX1_let_83 : decode cX1_let 83 = .ok (.aload_n 0, 1) := by decide +kernel
theorem dX1_let_84 : decode cX1_let 84 = .ok (.getfield 21, 3) := by decide +kernel
theorem dX1_let_87 : decode cX1_let 87 = .ok (.iload 5, 2) := by decide +kernel
theorem dX1_let_89 : decode cX1_let 89 = .ok (.new 19, 3) := by decide +kernel
theorem dX1_let_92 : decode cX1_let 92 = .ok (.dup, 1) := by decide +kernel
theorem dX1_let_93 : decode cX1_let 93 = .ok (.iload_n 1, 1) := by decide +kernel
theorem dX1_let_94 : decode cX1_let 94 = .ok (.iload_n 2, 1) := by decide +kernel
theorem dX1_let_95 : decode cX1_let 95 = .ok (.iload_n 3, 1) := by decide +kernel
theorem dX1_let_96 : decode cX1_let 96 = .ok (.iload 4, 2) := by decide +kernel
theorem dX1_let_98 : decode cX1_let 98 = .ok (.invokespecial 52, 3) := by decide +kernel
theorem dX1_let_101 : decode cX1_let 101 = .ok (.aastore, 1) := by decide +kernel
theorem dX1_let_102 : decode cX1_let 102 = .ok (.aload_n 0, 1) := by decide +kernel
theorem dX1_let_103 : decode cX1_let 103 = .ok (.iload 5, 2) := by decide +kernel
theorem dX1_let_105 : decode cX1_let 105 = .ok (.iconst 1, 1) := by decide +kernel
theorem dX1_let_106 : decode cX1_let 106 = .ok (.iadd, 1) := by decide +kernel
theorem dX1_let_107 : decode cX1_let 107 = .ok (.putfield 25, 3) := by decide +kernel
theorem dX1_let_110 : decode cX1_let 110 = .ok (.iload 5, 2) := by decide +kernel
theorem dX1_let_112 : decode cX1_let 112 = .ok (.ireturn, 1) := by decide +kernel
set_option maxRecDepth 20000 in
theorem ggX1_end_X1_find : GoodIn wsX1_end wsX1_find := goodIn_ca (goodIn_r _ [5, 6, 7, 8, 9, 10, 4, 11, 29, 30, 31, 32, 33] (by decide +kernel) (by decide +kernel)) (goodIn_sub (fun _ h => List.mem_cons_of_mem _ (List.mem_append_left _ (List.mem_append_right _ h))) (by decide +kernel))
set_option maxRecDepth 20000 in
theorem gX1_end_X1_find : GoodIn wsX1_end (wsV RX1 55 RX1 yX1_find wsX1_find) := goodIn_app (goodIn_of _ (by decide +kernel)) ggX1_end_X1_find
set_option maxRecDepth 20000 in
theorem ggX1_end_X1_checkRange : GoodIn wsX1_end wsX1_checkRange := goodIn_ca (goodIn_r _ [14, 15, 16] (by decide +kernel) (by decide +kernel)) (goodIn_sub (fun _ h => List.mem_cons_of_mem _ (List.mem_append_right _ h)) (by decide +kernel))
set_option maxRecDepth 20000 in
theorem gX1_end_X1_checkRange : GoodIn wsX1_end (va_wsS RX1 33 yX1_checkRange wsX1_checkRange) := goodIn_app (goodIn_of _ (by decide +kernel)) ggX1_end_X1_checkRange
theorem dX1_end_0 : decode cX1_end 0 = .ok (.aload_n 0, 1) := by decide +kernel
theorem dX1_end_1 : decode cX1_end 1 = .ok (.iload_n 1, 1) := by decide +kernel
theorem dX1_end_2 : decode cX1_end 2 = .ok (.invokevirtual 55, 3) := by decide +kernel
theorem dX1_end_5 : decode cX1_end 5 = .ok (.astore_n 3, 1) := by decide +kernel
theorem dX1_end_6 : decode cX1_end 6 = .ok (.iload_n 2, 1) := by decide +kernel
theorem dX1_end_7 : decode cX1_end 7 = .ok (.aload_n 3, 1) := by decide +kernel
theorem dX1_end_8 : decode cX1_end 8 = .ok (.getfield 59, 3) := by decide +kernel
theorem dX1_end_11 : decode cX1_end 11 = .ok (.iconst 1, 1) := by decide +kernel
theorem dX1_end_12 : decode cX1_end 12 = .ok (.iadd, 1) := by decide +kernel
theorem dX1_end_13 : decode cX1_end 13 = .ok (.aload_n 3, 1) := by decide +kernel
theorem dX1_end_14 : decode cX1_end 14 = .ok (.getfield 62, 3) := by decide +kernel
theorem dX1_end_17 : decode cX1_end 17 = .ok (.iconst 1, 1) := by decide +kernel
theorem dX1_end_18 : decode cX1_end 18 = .ok (.isub, 1) := by decide +kernel
theorem dX1_end_19 : decode cX1_end 19 = .ok (.invokestatic 33, 3) := by decide +kernel
theorem dX1_end_22 : decode cX1_end 22 = .ok (.aload_n 3, 1) := by decide +kernel
theorem dX1_end_23 : decode cX1_end 23 = .ok (.getfield 62, 3) := by decide +kernel
theorem dX1_end_26 : decode cX1_end 26 = .ok (.istore 4, 2) := by decide +kernel
theorem dX1_end_28 : decode cX1_end 28 = .ok (.aload_n 3, 1) := by decide +kernel
theorem dX1_end_29 : decode cX1_end 29 = .ok (.iload_n 2, 1) := by decide +kernel
theorem dX1_end_30 : decode cX1_end 30 = .ok (.putfield 62, 3) := by decide +kernel
theorem dX1_end_33 : decode cX1_end 33 = .ok (.iload 4, 2) := by decide +kernel
theorem dX1_end_35 : decode cX1_end 35 = .ok (.ireturn, 1) := by decide +kernel
set_option maxRecDepth 20000 in
theorem ggX1_step_X1_find : GoodIn wsX1_step wsX1_find := goodIn_ca (goodIn_r _ [8, 9, 10, 11, 12, 13, 7, 14, 44, 45, 46, 47, 48] (by decide +kernel) (by decide +kernel)) (goodIn_sub (fun _ h => List.mem_cons_of_mem _ (List.mem_append_left _ (List.mem_append_right _ h))) (by decide +kernel))
set_option maxRecDepth 20000 in
theorem gX1_step_X1_find : GoodIn wsX1_step (wsV RX1 55 RX1 yX1_find wsX1_find) := goodIn_app (goodIn_of _ (by decide +kernel)) ggX1_step_X1_find
set_option maxRecDepth 20000 in
theorem ggX1_step_X1_checkRange : GoodIn wsX1_step wsX1_checkRange := goodIn_ca (goodIn_r _ [17, 18, 19] (by decide +kernel) (by decide +kernel)) (goodIn_sub (fun _ h => List.mem_cons_of_mem _ (List.mem_append_right _ h)) (by decide +kernel))
set_option maxRecDepth 20000 in
theorem gX1_step_X1_checkRange : GoodIn wsX1_step (va_wsS RX1 33 yX1_checkRange wsX1_checkRange) := goodIn_app (goodIn_of _ (by decide +kernel)) ggX1_step_X1_checkRange
set_option maxRecDepth 20000 in
theorem ggX1_step_X0_putStep : GoodIn wsX1_step wsX0_putStep := goodIn_r _ [24, 25, 26, 27, 28, 29, 30, 31, 32, 33, 34, 35, 36, 37, 38, 39, 40, 41, 42, 43] (by decide +kernel) (by decide +kernel)
set_option maxRecDepth 20000 in
theorem gX1_step_X0_putStep : GoodIn wsX1_step (wsV RX1 65 RX0 yX0_putStep wsX0_putStep) := goodIn_app (goodIn_of _ (by decide +kernel)) ggX1_step_X0_putStep
theorem dX1_step_0 : decode cX1_step 0 = .ok (.aload_n 0, 1) := by decide +kernel
theorem dX1_step_1 : decode cX1_step 1 = .ok (.iload_n 1, 1) := by decide +kernel
theorem dX1_step_2 : decode cX1_step 2 = .ok (.invokevirtual 55, 3) := by decide +kernel
theorem dX1_step_5 : decode cX1_step 5 = .ok (.astore 4, 2) := by decide +kernel
theorem dX1_step_7 : decode cX1_step 7 = .ok (.iload_n 2, 1) := by decide +kernel
theorem dX1_step_8 : decode cX1_step 8 = .ok (.aload 4, 2) := by decide +kernel
theorem dX1_step_10 : decode cX1_step 10 = .ok (.getfield 59, 3) := by decide +kernel
theorem dX1_step_13 : decode cX1_step 13 = .ok (.iconst 1, 1) := by decide +kernel
theorem dX1_step_14 : decode cX1_step 14 = .ok (.iadd, 1) := by decide +kernel
theorem dX1_step_15 : decode cX1_step 15 = .ok (.aload 4, 2) := by decide +kernel
theorem dX1_step_17 : decode cX1_step 17 = .ok (.getfield 62, 3) := by decide +kernel
theorem dX1_step_20 : decode cX1_step 20 = .ok (.iconst 1, 1) := by decide +kernel
theorem dX1_step_21 : decode cX1_step 21 = .ok (.isub, 1) := by decide +kernel
theorem dX1_step_22 : decode cX1_step 22 = .ok (.invokestatic 33, 3) := by decide +kernel
theorem dX1_step_25 : decode cX1_step 25 = .ok (.iload_n 3, 1) := by decide +kernel
theorem dX1_step_26 : decode cX1_step 26 = .ok (.iconst 1, 1) := by decide +kernel
theorem dX1_step_27 : decode cX1_step 27 = .ok (.ldc 38, 2) := by decide +kernel
theorem dX1_step_29 : decode cX1_step 29 = .ok (.invokestatic 33, 3) := by decide +kernel
theorem dX1_step_32 : decode cX1_step 32 = .ok (.aload 4, 2) := by decide +kernel
theorem dX1_step_34 : decode cX1_step 34 = .ok (.iload_n 2, 1) := by decide +kernel
theorem dX1_step_35 : decode cX1_step 35 = .ok (.iload_n 3, 1) := by decide +kernel
theorem dX1_step_36 : decode cX1_step 36 = .ok (.invokevirtual 65, 3) := by decide +kernel
theorem dX1_step_39 : decode cX1_step 39 = .ok (.ifCond .ne 13, 3) := by decide +kernel
theorem dX1_step_42 : decode cX1_step 42 = .ok (.new 39, 3) := by decide +kernel
theorem dX1_step_45 : decode cX1_step 45 = .ok (.dup, 1) := by decide +kernel
theorem dX1_step_46 : decode cX1_step 46 = .ok (.ldc 69, 2) := by decide +kernel
theorem dX1_step_48 : decode cX1_step 48 = .ok (.invokespecial 43, 3) := by decide +kernel
theorem dX1_step_51 : decode cX1_step 51 = .ok (.athrow, 1) := by decide +kernel
theorem dX1_step_52 : decode cX1_step 52 = .ok (.aload 4, 2) := by decide +kernel
theorem dX1_step_54 : decode cX1_step 54 = .ok (.getfield 71, 3) := by decide +kernel
theorem dX1_step_57 : decode cX1_step 57 = .ok (.ireturn, 1) := by decide +kernel
set_option maxRecDepth 20000 in
theorem ggX1_setTerms_X1_find : GoodIn wsX1_setTerms wsX1_find := goodIn_ca (goodIn_r _ [5, 6, 7, 8, 9, 10, 4, 11, 29, 30, 31, 32, 33] (by decide +kernel) (by decide +kernel)) (goodIn_sub (fun _ h => List.mem_cons_of_mem _ (List.mem_append_left _ (List.mem_append_right _ h))) (by decide +kernel))
set_option maxRecDepth 20000 in
theorem gX1_setTerms_X1_find : GoodIn wsX1_setTerms (wsV RX1 55 RX1 yX1_find wsX1_find) := goodIn_app (goodIn_of _ (by decide +kernel)) ggX1_setTerms_X1_find
set_option maxRecDepth 20000 in
theorem ggX1_setTerms_X1_checkRange : GoodIn wsX1_setTerms wsX1_checkRange := goodIn_ca (goodIn_r _ [14, 15, 16] (by decide +kernel) (by decide +kernel)) (goodIn_sub (fun _ h => List.mem_cons_of_mem _ (List.mem_append_right _ h)) (by decide +kernel))
set_option maxRecDepth 20000 in
theorem gX1_setTerms_X1_checkRange : GoodIn wsX1_setTerms (va_wsS RX1 33 yX1_checkRange wsX1_checkRange) := goodIn_app (goodIn_of _ (by decide +kernel)) ggX1_setTerms_X1_checkRange
theorem dX1_setTerms_0 : decode cX1_setTerms 0 = .ok (.aload_n 0, 1) := by decide +kernel
theorem dX1_setTerms_1 : decode cX1_setTerms 1 = .ok (.iload_n 1, 1) := by decide +kernel
theorem dX1_setTerms_2 : decode cX1_setTerms 2 = .ok (.invokevirtual 55, 3) := by decide +kernel
theorem dX1_setTerms_5 : decode cX1_setTerms 5 = .ok (.astore 4, 2) := by decide +kernel
theorem dX1_setTerms_7 : decode cX1_setTerms 7 = .ok (.iload_n 2, 1) := by decide +kernel
theorem dX1_setTerms_8 : decode cX1_setTerms 8 = .ok (.iconst 0, 1) := by decide +kernel
theorem dX1_setTerms_9 : decode cX1_setTerms 9 = .ok (.sipush 720, 3) := by decide +kernel
theorem dX1_setTerms_12 : decode cX1_setTerms 12 = .ok (.invokestatic 33, 3) := by decide +kernel
theorem dX1_setTerms_15 : decode cX1_setTerms 15 = .ok (.iload_n 3, 1) := by decide +kernel
theorem dX1_setTerms_16 : decode cX1_setTerms 16 = .ok (.ifCond .eq 12, 3) := by decide +kernel
theorem dX1_setTerms_19 : decode cX1_setTerms 19 = .ok (.iload_n 3, 1) := by decide +kernel
theorem dX1_setTerms_20 : decode cX1_setTerms 20 = .ok (.bipush 30, 2) := by decide +kernel
theorem dX1_setTerms_22 : decode cX1_setTerms 22 = .ok (.sipush 1800, 3) := by decide +kernel
theorem dX1_setTerms_25 : decode cX1_setTerms 25 = .ok (.invokestatic 33, 3) := by decide +kernel
theorem dX1_setTerms_28 : decode cX1_setTerms 28 = .ok (.aload 4, 2) := by decide +kernel
theorem dX1_setTerms_30 : decode cX1_setTerms 30 = .ok (.iload_n 2, 1) := by decide +kernel
theorem dX1_setTerms_31 : decode cX1_setTerms 31 = .ok (.putfield 74, 3) := by decide +kernel
theorem dX1_setTerms_34 : decode cX1_setTerms 34 = .ok (.aload 4, 2) := by decide +kernel
theorem dX1_setTerms_36 : decode cX1_setTerms 36 = .ok (.iload_n 3, 1) := by decide +kernel
theorem dX1_setTerms_37 : decode cX1_setTerms 37 = .ok (.putfield 77, 3) := by decide +kernel
theorem dX1_setTerms_40 : decode cX1_setTerms 40 = .ok (.return_, 1) := by decide +kernel
set_option maxRecDepth 20000 in
theorem ggX1_setService_X1_find : GoodIn wsX1_setService wsX1_find := goodIn_ca (goodIn_r _ [6, 7, 8, 9, 10, 11, 5, 12, 30, 31, 32, 33, 34] (by decide +kernel) (by decide +kernel)) (goodIn_sub (fun _ h => List.mem_cons_of_mem _ (List.mem_append_left _ (List.mem_append_right _ h))) (by decide +kernel))
set_option maxRecDepth 20000 in
theorem gX1_setService_X1_find : GoodIn wsX1_setService (wsV RX1 55 RX1 yX1_find wsX1_find) := goodIn_app (goodIn_of _ (by decide +kernel)) ggX1_setService_X1_find
set_option maxRecDepth 20000 in
theorem ggX1_setService_X1_checkRange : GoodIn wsX1_setService wsX1_checkRange := goodIn_ca (goodIn_r _ [15, 16, 17] (by decide +kernel) (by decide +kernel)) (goodIn_sub (fun _ h => List.mem_cons_of_mem _ (List.mem_append_right _ h)) (by decide +kernel))
set_option maxRecDepth 20000 in
theorem gX1_setService_X1_checkRange : GoodIn wsX1_setService (va_wsS RX1 33 yX1_checkRange wsX1_checkRange) := goodIn_app (goodIn_of _ (by decide +kernel)) ggX1_setService_X1_checkRange
theorem dX1_setService_0 : decode cX1_setService 0 = .ok (.aload_n 0, 1) := by decide +kernel
theorem dX1_setService_1 : decode cX1_setService 1 = .ok (.iload_n 1, 1) := by decide +kernel
theorem dX1_setService_2 : decode cX1_setService 2 = .ok (.invokevirtual 55, 3) := by decide +kernel
theorem dX1_setService_5 : decode cX1_setService 5 = .ok (.astore 4, 2) := by decide +kernel
theorem dX1_setService_7 : decode cX1_setService 7 = .ok (.iload_n 2, 1) := by decide +kernel
theorem dX1_setService_8 : decode cX1_setService 8 = .ok (.iconst (-1), 1) := by decide +kernel
theorem dX1_setService_9 : decode cX1_setService 9 = .ok (.if_icmp .eq 10, 3) := by decide +kernel
theorem dX1_setService_12 : decode cX1_setService 12 = .ok (.iload_n 2, 1) := by decide +kernel
theorem dX1_setService_13 : decode cX1_setService 13 = .ok (.iconst 0, 1) := by decide +kernel
theorem dX1_setService_14 : decode cX1_setService 14 = .ok (.ldc 37, 2) := by decide +kernel
theorem dX1_setService_16 : decode cX1_setService 16 = .ok (.invokestatic 33, 3) := by decide +kernel
theorem dX1_setService_19 : decode cX1_setService 19 = .ok (.iload_n 3, 1) := by decide +kernel
theorem dX1_setService_20 : decode cX1_setService 20 = .ok (.iconst 0, 1) := by decide +kernel
theorem dX1_setService_21 : decode cX1_setService 21 = .ok (.sipush 9999, 3) := by decide +kernel
theorem dX1_setService_24 : decode cX1_setService 24 = .ok (.invokestatic 33, 3) := by decide +kernel
theorem dX1_setService_27 : decode cX1_setService 27 = .ok (.aload 4, 2) := by decide +kernel
theorem dX1_setService_29 : decode cX1_setService 29 = .ok (.iload_n 2, 1) := by decide +kernel
theorem dX1_setService_30 : decode cX1_setService 30 = .ok (.putfield 80, 3) := by decide +kernel
theorem dX1_setService_33 : decode cX1_setService 33 = .ok (.aload 4, 2) := by decide +kernel
theorem dX1_setService_35 : decode cX1_setService 35 = .ok (.iload_n 3, 1) := by decide +kernel
theorem dX1_setService_36 : decode cX1_setService 36 = .ok (.putfield 83, 3) := by decide +kernel
theorem dX1_setService_39 : decode cX1_setService 39 = .ok (.return_, 1) := by decide +kernel
set_option maxRecDepth 20000 in
theorem ggX1_topUp_X1_find : GoodIn wsX1_topUp wsX1_find := goodIn_ca (goodIn_r _ [9, 10, 11, 12, 13, 14, 8, 15, 70, 71, 72, 73, 74] (by decide +kernel) (by decide +kernel)) (goodIn_sub (fun _ h => List.mem_cons_of_mem _ (List.mem_append_left _ (List.mem_append_right _ h))) (by decide +kernel))
set_option maxRecDepth 20000 in
theorem gX1_topUp_X1_find : GoodIn wsX1_topUp (wsV RX1 55 RX1 yX1_find wsX1_find) := goodIn_app (goodIn_of _ (by decide +kernel)) ggX1_topUp_X1_find
set_option maxRecDepth 20000 in
theorem ggX1_topUp_X1_checkRange : GoodIn wsX1_topUp wsX1_checkRange := goodIn_ca (goodIn_r _ [18, 19, 20] (by decide +kernel) (by decide +kernel)) (goodIn_sub (fun _ h => List.mem_cons_of_mem _ (List.mem_append_right _ h)) (by decide +kernel))
set_option maxRecDepth 20000 in
theorem gX1_topUp_X1_checkRange : GoodIn wsX1_topUp (va_wsS RX1 33 yX1_checkRange wsX1_checkRange) := goodIn_app (goodIn_of _ (by decide +kernel)) ggX1_topUp_X1_checkRange
set_option maxRecDepth 20000 in
theorem ggX1_topUp_X1_rentFor : GoodIn wsX1_topUp wsX1_rentFor := goodIn_r _ [24, 25, 1, 2, 3, 4, 26, 27, 28, 29, 30, 31, 32, 33, 34, 35, 36, 37, 38, 39, 40, 41, 42, 43, 44, 45, 46, 47, 8, 48, 49, 50, 51, 52, 53, 54, 55, 56, 57, 70, 71, 72, 73, 74, 58, 59, 60, 61, 62, 63, 64, 65, 66, 67, 68, 69] (by decide +kernel) (by decide +kernel)
set_option maxRecDepth 20000 in
theorem gX1_topUp_X1_rentFor : GoodIn wsX1_topUp (wsV RX1 86 RX1 yX1_rentFor wsX1_rentFor) := goodIn_app (goodIn_of _ (by decide +kernel)) ggX1_topUp_X1_rentFor
theorem dX1_topUp_0 : decode cX1_topUp 0 = .ok (.aload_n 0, 1) := by decide +kernel
theorem dX1_topUp_1 : decode cX1_topUp 1 = .ok (.iload_n 1, 1) := by decide +kernel
theorem dX1_topUp_2 : decode cX1_topUp 2 = .ok (.invokevirtual 55, 3) := by decide +kernel
theorem dX1_topUp_5 : decode cX1_topUp 5 = .ok (.astore 4, 2) := by decide +kernel
theorem dX1_topUp_7 : decode cX1_topUp 7 = .ok (.iload_n 2, 1) := by decide +kernel
theorem dX1_topUp_8 : decode cX1_topUp 8 = .ok (.aload 4, 2) := by decide +kernel
theorem dX1_topUp_10 : decode cX1_topUp 10 = .ok (.getfield 59, 3) := by decide +kernel
theorem dX1_topUp_13 : decode cX1_topUp 13 = .ok (.aload 4, 2) := by decide +kernel
theorem dX1_topUp_15 : decode cX1_topUp 15 = .ok (.getfield 62, 3) := by decide +kernel
theorem dX1_topUp_18 : decode cX1_topUp 18 = .ok (.iconst 1, 1) := by decide +kernel
theorem dX1_topUp_19 : decode cX1_topUp 19 = .ok (.isub, 1) := by decide +kernel
theorem dX1_topUp_20 : decode cX1_topUp 20 = .ok (.invokestatic 33, 3) := by decide +kernel
theorem dX1_topUp_23 : decode cX1_topUp 23 = .ok (.iload_n 3, 1) := by decide +kernel
theorem dX1_topUp_24 : decode cX1_topUp 24 = .ok (.iconst 1, 1) := by decide +kernel
theorem dX1_topUp_25 : decode cX1_topUp 25 = .ok (.bipush 6, 2) := by decide +kernel
theorem dX1_topUp_27 : decode cX1_topUp 27 = .ok (.invokestatic 33, 3) := by decide +kernel
theorem dX1_topUp_30 : decode cX1_topUp 30 = .ok (.iconst 0, 1) := by decide +kernel
theorem dX1_topUp_31 : decode cX1_topUp 31 = .ok (.iload_n 3, 1) := by decide +kernel
theorem dX1_topUp_32 : decode cX1_topUp 32 = .ok (.aload_n 0, 1) := by decide +kernel
theorem dX1_topUp_33 : decode cX1_topUp 33 = .ok (.aload 4, 2) := by decide +kernel
theorem dX1_topUp_35 : decode cX1_topUp 35 = .ok (.iload_n 2, 1) := by decide +kernel
theorem dX1_topUp_36 : decode cX1_topUp 36 = .ok (.invokevirtual 86, 3) := by decide +kernel
theorem dX1_topUp_39 : decode cX1_topUp 39 = .ok (.imul, 1) := by decide +kernel
theorem dX1_topUp_40 : decode cX1_topUp 40 = .ok (.aload 4, 2) := by decide +kernel
theorem dX1_topUp_42 : decode cX1_topUp 42 = .ok (.getfield 90, 3) := by decide +kernel
theorem dX1_topUp_45 : decode cX1_topUp 45 = .ok (.isub, 1) := by decide +kernel
theorem dX1_topUp_46 : decode cX1_topUp 46 = .ok (.invokestatic 93, 3) := by decide +kernel
theorem dX1_topUp_49 : decode cX1_topUp 49 = .ok (.istore 5, 2) := by decide +kernel
theorem dX1_topUp_51 : decode cX1_topUp 51 = .ok (.aload 4, 2) := by decide +kernel
theorem dX1_topUp_53 : decode cX1_topUp 53 = .ok (.dup, 1) := by decide +kernel
theorem dX1_topUp_54 : decode cX1_topUp 54 = .ok (.getfield 90, 3) := by decide +kernel
theorem dX1_topUp_57 : decode cX1_topUp 57 = .ok (.iload 5, 2) := by decide +kernel
theorem dX1_topUp_59 : decode cX1_topUp 59 = .ok (.iadd, 1) := by decide +kernel
theorem dX1_topUp_60 : decode cX1_topUp 60 = .ok (.putfield 90, 3) := by decide +kernel
theorem dX1_topUp_63 : decode cX1_topUp 63 = .ok (.iload 5, 2) := by decide +kernel
theorem dX1_topUp_65 : decode cX1_topUp 65 = .ok (.ireturn, 1) := by decide +kernel
set_option maxRecDepth 20000 in
theorem ggX1_draw_X1_find : GoodIn wsX1_draw wsX1_find := goodIn_ca (goodIn_r _ [8, 9, 10, 11, 12, 13, 7, 14, 32, 33, 34, 35, 36] (by decide +kernel) (by decide +kernel)) (goodIn_sub (fun _ h => List.mem_cons_of_mem _ (List.mem_append_left _ (List.mem_append_right _ h))) (by decide +kernel))
set_option maxRecDepth 20000 in
theorem gX1_draw_X1_find : GoodIn wsX1_draw (wsV RX1 55 RX1 yX1_find wsX1_find) := goodIn_app (goodIn_of _ (by decide +kernel)) ggX1_draw_X1_find
set_option maxRecDepth 20000 in
theorem ggX1_draw_X1_checkRange : GoodIn wsX1_draw wsX1_checkRange := goodIn_ca (goodIn_r _ [17, 18, 19] (by decide +kernel) (by decide +kernel)) (goodIn_sub (fun _ h => List.mem_cons_of_mem _ (List.mem_append_right _ h)) (by decide +kernel))
set_option maxRecDepth 20000 in
theorem gX1_draw_X1_checkRange : GoodIn wsX1_draw (va_wsS RX1 33 yX1_checkRange wsX1_checkRange) := goodIn_app (goodIn_of _ (by decide +kernel)) ggX1_draw_X1_checkRange
theorem dX1_draw_0 : decode cX1_draw 0 = .ok (.aload_n 0, 1) := by decide +kernel
theorem dX1_draw_1 : decode cX1_draw 1 = .ok (.iload_n 1, 1) := by decide +kernel
theorem dX1_draw_2 : decode cX1_draw 2 = .ok (.invokevirtual 55, 3) := by decide +kernel
theorem dX1_draw_5 : decode cX1_draw 5 = .ok (.astore_n 3, 1) := by decide +kernel
theorem dX1_draw_6 : decode cX1_draw 6 = .ok (.iload_n 2, 1) := by decide +kernel
theorem dX1_draw_7 : decode cX1_draw 7 = .ok (.iconst 1, 1) := by decide +kernel
theorem dX1_draw_8 : decode cX1_draw 8 = .ok (.ldc 37, 2) := by decide +kernel
theorem dX1_draw_10 : decode cX1_draw 10 = .ok (.invokestatic 33, 3) := by decide +kernel
theorem dX1_draw_13 : decode cX1_draw 13 = .ok (.aload_n 3, 1) := by decide +kernel
theorem dX1_draw_14 : decode cX1_draw 14 = .ok (.getfield 90, 3) := by decide +kernel
theorem dX1_draw_17 : decode cX1_draw 17 = .ok (.iload_n 2, 1) := by decide +kernel
theorem dX1_draw_18 : decode cX1_draw 18 = .ok (.if_icmp .ge 13, 3) := by decide +kernel
theorem dX1_draw_21 : decode cX1_draw 21 = .ok (.new 39, 3) := by decide +kernel
theorem dX1_draw_24 : decode cX1_draw 24 = .ok (.dup, 1) := by decide +kernel
theorem dX1_draw_25 : decode cX1_draw 25 = .ok (.ldc 99, 2) := by decide +kernel
theorem dX1_draw_27 : decode cX1_draw 27 = .ok (.invokespecial 43, 3) := by decide +kernel
theorem dX1_draw_30 : decode cX1_draw 30 = .ok (.athrow, 1) := by decide +kernel
theorem dX1_draw_31 : decode cX1_draw 31 = .ok (.aload_n 3, 1) := by decide +kernel
theorem dX1_draw_32 : decode cX1_draw 32 = .ok (.dup, 1) := by decide +kernel
theorem dX1_draw_33 : decode cX1_draw 33 = .ok (.getfield 90, 3) := by decide +kernel
theorem dX1_draw_36 : decode cX1_draw 36 = .ok (.iload_n 2, 1) := by decide +kernel
theorem dX1_draw_37 : decode cX1_draw 37 = .ok (.isub, 1) := by decide +kernel
theorem dX1_draw_38 : decode cX1_draw 38 = .ok (.putfield 90, 3) := by decide +kernel
theorem dX1_draw_41 : decode cX1_draw 41 = .ok (.aload_n 3, 1) := by decide +kernel
theorem dX1_draw_42 : decode cX1_draw 42 = .ok (.getfield 90, 3) := by decide +kernel
theorem dX1_draw_45 : decode cX1_draw 45 = .ok (.ireturn, 1) := by decide +kernel
set_option maxRecDepth 20000 in
theorem ggX1_held_X1_find : GoodIn wsX1_held wsX1_find := goodIn_ca (goodIn_r _ [5, 6, 7, 8, 9, 10, 4, 11, 24, 25, 26, 27, 28] (by decide +kernel) (by decide +kernel)) (goodIn_sub (fun _ h => List.mem_cons_of_mem _ (List.mem_append_right _ h)) (by decide +kernel))
set_option maxRecDepth 20000 in
theorem gX1_held_X1_find : GoodIn wsX1_held (wsV RX1 55 RX1 yX1_find wsX1_find) := goodIn_app (goodIn_of _ (by decide +kernel)) ggX1_held_X1_find
theorem dX1_held_0 : decode cX1_held 0 = .ok (.aload_n 0, 1) := by decide +kernel
theorem dX1_held_1 : decode cX1_held 1 = .ok (.iload_n 1, 1) := by decide +kernel
theorem dX1_held_2 : decode cX1_held 2 = .ok (.invokevirtual 55, 3) := by decide +kernel
theorem dX1_held_5 : decode cX1_held 5 = .ok (.getfield 90, 3) := by decide +kernel
theorem dX1_held_8 : decode cX1_held 8 = .ok (.ireturn, 1) := by decide +kernel
theorem dX1_leases_0 : decode cX1_leases 0 = .ok (.aload_n 0, 1) := by decide +kernel
theorem dX1_leases_1 : decode cX1_leases 1 = .ok (.getfield 25, 3) := by decide +kernel
theorem dX1_leases_4 : decode cX1_leases 4 = .ok (.ireturn, 1) := by decide +kernel
set_option maxRecDepth 20000 in
theorem ggX1_leaseOn_X1_checkNumber : GoodIn wsX1_leaseOn wsX1_checkNumber := goodIn_ca (goodIn_r _ [6, 7, 8] (by decide +kernel) (by decide +kernel)) (goodIn_sub (fun _ h => List.mem_cons_of_mem _ (List.mem_append_right _ h)) (by decide +kernel))
set_option maxRecDepth 20000 in
theorem gX1_leaseOn_X1_checkNumber : GoodIn wsX1_leaseOn (va_wsS RX1 29 yX1_checkNumber wsX1_checkNumber) := goodIn_app (goodIn_of _ (by decide +kernel)) ggX1_leaseOn_X1_checkNumber
set_option maxRecDepth 20000 in
theorem ggX1_leaseOn_X0_runsOn : GoodIn wsX1_leaseOn wsX0_runsOn := goodIn_r _ [13, 14, 15, 21, 22, 23, 24, 25, 26, 27, 28, 29, 30, 31, 32] (by decide +kernel) (by decide +kernel)
set_option maxRecDepth 20000 in
theorem gX1_leaseOn_X0_runsOn : GoodIn wsX1_leaseOn (wsV RX1 104 RX0 yX0_runsOn wsX0_runsOn) := goodIn_app (goodIn_of _ (by decide +kernel)) ggX1_leaseOn_X0_runsOn
