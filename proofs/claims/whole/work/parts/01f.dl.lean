theorem dJ9_max_7cf53_0 : decode cJ9_max_7cf53 0 = .ok (.iload_n 0, 1) := by decide +kernel
theorem dJ9_max_7cf53_1 : decode cJ9_max_7cf53 1 = .ok (.iload_n 1, 1) := by decide +kernel
theorem dJ9_max_7cf53_2 : decode cJ9_max_7cf53 2 = .ok (.if_icmp .lt 7, 3) := by decide +kernel
theorem dJ9_max_7cf53_5 : decode cJ9_max_7cf53 5 = .ok (.iload_n 0, 1) := by decide +kernel
theorem dJ9_max_7cf53_6 : decode cJ9_max_7cf53 6 = .ok (.goto 4, 3) := by decide +kernel
theorem dJ9_max_7cf53_9 : decode cJ9_max_7cf53 9 = .ok (.iload_n 1, 1) := by decide +kernel
theorem dJ9_max_7cf53_10 : decode cJ9_max_7cf53 10 = .ok (.ireturn, 1) := by decide +kernel
theorem dJ9_min_7cf53_0 : decode cJ9_min_7cf53 0 = .ok (.iload_n 0, 1) := by decide +kernel
theorem dJ9_min_7cf53_1 : decode cJ9_min_7cf53 1 = .ok (.iload_n 1, 1) := by decide +kernel
theorem dJ9_min_7cf53_2 : decode cJ9_min_7cf53 2 = .ok (.if_icmp .gt 7, 3) := by decide +kernel
theorem dJ9_min_7cf53_5 : decode cJ9_min_7cf53 5 = .ok (.iload_n 0, 1) := by decide +kernel
theorem dJ9_min_7cf53_6 : decode cJ9_min_7cf53 6 = .ok (.goto 4, 3) := by decide +kernel
theorem dJ9_min_7cf53_9 : decode cJ9_min_7cf53 9 = .ok (.iload_n 1, 1) := by decide +kernel
theorem dJ9_min_7cf53_10 : decode cJ9_min_7cf53 10 = .ok (.ireturn, 1) := by decide +kernel
set_option maxRecDepth 20000 in
theorem ggL_setArea_X1_setArea : GoodIn wsL_setArea wsX1_setArea := goodIn_ca (goodIn_ca (goodIn_r _ [7, 8, 9, 10, 6, 11, 12, 13, 14, 15, 16, 17, 18, 19, 20, 21, 22, 23] (by decide +kernel) (by decide +kernel)) (goodIn_sub (fun _ h => List.mem_cons_of_mem _ (List.mem_append_left _ (List.mem_append_right _ h))) (by decide +kernel))) (goodIn_sub (fun _ h => List.mem_cons_of_mem _ (List.mem_append_right _ h)) (by decide +kernel))
set_option maxRecDepth 20000 in
theorem gL_setArea_X1_setArea : GoodIn wsL_setArea (wsV RL 7 RX1 yX1_setArea wsX1_setArea) := goodIn_app (goodIn_of _ (by decide +kernel)) ggL_setArea_X1_setArea
theorem dL_setArea_0 : decode cL_setArea 0 = .ok (.aload_n 3, 1) := by decide +kernel
theorem dL_setArea_1 : decode cL_setArea 1 = .ok (.iconst 0, 1) := by decide +kernel
theorem dL_setArea_2 : decode cL_setArea 2 = .ok (.aload_n 0, 1) := by decide +kernel
theorem dL_setArea_3 : decode cL_setArea 3 = .ok (.iload_n 1, 1) := by decide +kernel
theorem dL_setArea_4 : decode cL_setArea 4 = .ok (.iload_n 2, 1) := by decide +kernel
theorem dL_setArea_5 : decode cL_setArea 5 = .ok (.invokevirtual 7, 3) := by decide +kernel
theorem dL_setArea_8 : decode cL_setArea 8 = .ok (.i2l, 1) := by decide +kernel
theorem dL_setArea_9 : decode cL_setArea 9 = .ok (.lastore, 1) := by decide +kernel
theorem dL_setArea_10 : decode cL_setArea 10 = .ok (.goto 11, 3) := by decide +kernel
theorem dL_setArea_13 : decode cL_setArea 13 = .ok (.astore 4, 2) := by decide +kernel
theorem dL_setArea_15 : decode cL_setArea 15 = .ok (.iconst 1, 1) := by decide +kernel
theorem dL_setArea_16 : decode cL_setArea 16 = .ok (.ireturn, 1) := by decide +kernel
theorem dL_setArea_17 : decode cL_setArea 17 = .ok (.astore 4, 2) := by decide +kernel
theorem dL_setArea_19 : decode cL_setArea 19 = .ok (.iconst 2, 1) := by decide +kernel
theorem dL_setArea_20 : decode cL_setArea 20 = .ok (.ireturn, 1) := by decide +kernel
theorem dL_setArea_21 : decode cL_setArea 21 = .ok (.iconst 0, 1) := by decide +kernel
theorem dL_setArea_22 : decode cL_setArea 22 = .ok (.ireturn, 1) := by decide +kernel
set_option maxRecDepth 20000 in
theorem ggL_setIndex_X1_setIndex : GoodIn wsL_setIndex wsX1_setIndex := goodIn_ca (goodIn_ca (goodIn_r _ [7, 8, 9, 10, 6, 11, 12, 13, 14, 15, 16, 17, 18, 19, 20, 21, 22, 23] (by decide +kernel) (by decide +kernel)) (goodIn_sub (fun _ h => List.mem_cons_of_mem _ (List.mem_append_left _ (List.mem_append_right _ h))) (by decide +kernel))) (goodIn_sub (fun _ h => List.mem_cons_of_mem _ (List.mem_append_right _ h)) (by decide +kernel))
set_option maxRecDepth 20000 in
theorem gL_setIndex_X1_setIndex : GoodIn wsL_setIndex (wsV RL 17 RX1 yX1_setIndex wsX1_setIndex) := goodIn_app (goodIn_of _ (by decide +kernel)) ggL_setIndex_X1_setIndex
theorem dL_setIndex_0 : decode cL_setIndex 0 = .ok (.aload_n 3, 1) := by decide +kernel
theorem dL_setIndex_1 : decode cL_setIndex 1 = .ok (.iconst 0, 1) := by decide +kernel
theorem dL_setIndex_2 : decode cL_setIndex 2 = .ok (.aload_n 0, 1) := by decide +kernel
theorem dL_setIndex_3 : decode cL_setIndex 3 = .ok (.iload_n 1, 1) := by decide +kernel
theorem dL_setIndex_4 : decode cL_setIndex 4 = .ok (.iload_n 2, 1) := by decide +kernel
theorem dL_setIndex_5 : decode cL_setIndex 5 = .ok (.invokevirtual 17, 3) := by decide +kernel
theorem dL_setIndex_8 : decode cL_setIndex 8 = .ok (.i2l, 1) := by decide +kernel
theorem dL_setIndex_9 : decode cL_setIndex 9 = .ok (.lastore, 1) := by decide +kernel
theorem dL_setIndex_10 : decode cL_setIndex 10 = .ok (.goto 11, 3) := by decide +kernel
theorem dL_setIndex_13 : decode cL_setIndex 13 = .ok (.astore 4, 2) := by decide +kernel
theorem dL_setIndex_15 : decode cL_setIndex 15 = .ok (.iconst 1, 1) := by decide +kernel
theorem dL_setIndex_16 : decode cL_setIndex 16 = .ok (.ireturn, 1) := by decide +kernel
theorem dL_setIndex_17 : decode cL_setIndex 17 = .ok (.astore 4, 2) := by decide +kernel
theorem dL_setIndex_19 : decode cL_setIndex 19 = .ok (.iconst 2, 1) := by decide +kernel
theorem dL_setIndex_20 : decode cL_setIndex 20 = .ok (.ireturn, 1) := by decide +kernel
theorem dL_setIndex_21 : decode cL_setIndex 21 = .ok (.iconst 0, 1) := by decide +kernel
theorem dL_setIndex_22 : decode cL_setIndex 22 = .ok (.ireturn, 1) := by decide +kernel
set_option maxRecDepth 20000 in
theorem ggL_setCost_X1_setCost : GoodIn wsL_setCost wsX1_setCost := goodIn_ca (goodIn_ca (goodIn_r _ [7, 8, 9, 10, 11, 6, 12, 13, 14, 15, 16, 17, 18, 19, 20, 21, 22, 23, 24] (by decide +kernel) (by decide +kernel)) (goodIn_sub (fun _ h => List.mem_cons_of_mem _ (List.mem_append_left _ (List.mem_append_right _ h))) (by decide +kernel))) (goodIn_sub (fun _ h => List.mem_cons_of_mem _ (List.mem_append_right _ h)) (by decide +kernel))
set_option maxRecDepth 20000 in
theorem gL_setCost_X1_setCost : GoodIn wsL_setCost (wsV RL 20 RX1 yX1_setCost wsX1_setCost) := goodIn_app (goodIn_of _ (by decide +kernel)) ggL_setCost_X1_setCost
theorem dL_setCost_0 : decode cL_setCost 0 = .ok (.aload_n 3, 1) := by decide +kernel
theorem dL_setCost_1 : decode cL_setCost 1 = .ok (.iconst 0, 1) := by decide +kernel
theorem dL_setCost_2 : decode cL_setCost 2 = .ok (.aload_n 0, 1) := by decide +kernel
theorem dL_setCost_3 : decode cL_setCost 3 = .ok (.iload_n 1, 1) := by decide +kernel
theorem dL_setCost_4 : decode cL_setCost 4 = .ok (.iload_n 2, 1) := by decide +kernel
theorem dL_setCost_5 : decode cL_setCost 5 = .ok (.invokevirtual 20, 3) := by decide +kernel
theorem dL_setCost_8 : decode cL_setCost 8 = .ok (.i2l, 1) := by decide +kernel
theorem dL_setCost_9 : decode cL_setCost 9 = .ok (.lastore, 1) := by decide +kernel
theorem dL_setCost_10 : decode cL_setCost 10 = .ok (.goto 11, 3) := by decide +kernel
theorem dL_setCost_13 : decode cL_setCost 13 = .ok (.astore 4, 2) := by decide +kernel
theorem dL_setCost_15 : decode cL_setCost 15 = .ok (.iconst 1, 1) := by decide +kernel
theorem dL_setCost_16 : decode cL_setCost 16 = .ok (.ireturn, 1) := by decide +kernel
theorem dL_setCost_17 : decode cL_setCost 17 = .ok (.astore 4, 2) := by decide +kernel
theorem dL_setCost_19 : decode cL_setCost 19 = .ok (.iconst 2, 1) := by decide +kernel
theorem dL_setCost_20 : decode cL_setCost 20 = .ok (.ireturn, 1) := by decide +kernel
theorem dL_setCost_21 : decode cL_setCost 21 = .ok (.iconst 0, 1) := by decide +kernel
theorem dL_setCost_22 : decode cL_setCost 22 = .ok (.ireturn, 1) := by decide +kernel
set_option maxRecDepth 20000 in
theorem ggL_let_X1_let : GoodIn wsL_let wsX1_let := goodIn_ca (goodIn_ca (goodIn_ca (goodIn_r _ [8, 9, 10, 11, 12, 13, 14, 15, 16, 17, 18, 19, 7, 20, 21, 22, 23, 24, 25, 26, 27, 28, 29, 30, 31, 32, 33, 34, 35, 36, 37, 38, 39, 40, 41, 42, 43, 44, 45, 46, 47, 48, 49, 50, 51, 52, 53, 54, 55, 56, 57, 58, 59, 60, 61, 62, 63, 64, 65, 66, 67, 68, 69, 70, 71, 72, 73, 74, 75, 76, 77, 78] (by decide +kernel) (by decide +kernel)) (goodIn_sub (fun _ h => List.mem_cons_of_mem _ (List.mem_append_left _ (List.mem_append_left _ (List.mem_append_right _ h)))) (by decide +kernel))) (goodIn_sub (fun _ h => List.mem_cons_of_mem _ (List.mem_append_left _ (List.mem_append_right _ h))) (by decide +kernel))) (goodIn_sub (fun _ h => List.mem_cons_of_mem _ (List.mem_append_right _ h)) (by decide +kernel))
set_option maxRecDepth 20000 in
theorem gL_let_X1_let : GoodIn wsL_let (wsV RL 23 RX1 yX1_let wsX1_let) := goodIn_app (goodIn_of _ (by decide +kernel)) ggL_let_X1_let
theorem dL_let_0 : decode cL_let 0 = .ok (.aload 5, 2) := by decide +kernel
theorem dL_let_2 : decode cL_let 2 = .ok (.iconst 0, 1) := by decide +kernel
theorem dL_let_3 : decode cL_let 3 = .ok (.aload_n 0, 1) := by decide +kernel
theorem dL_let_4 : decode cL_let 4 = .ok (.iload_n 1, 1) := by decide +kernel
theorem dL_let_5 : decode cL_let 5 = .ok (.iload_n 2, 1) := by decide +kernel
theorem dL_let_6 : decode cL_let 6 = .ok (.iload_n 3, 1) := by decide +kernel
theorem dL_let_7 : decode cL_let 7 = .ok (.iload 4, 2) := by decide +kernel
theorem dL_let_9 : decode cL_let 9 = .ok (.invokevirtual 23, 3) := by decide +kernel
theorem dL_let_12 : decode cL_let 12 = .ok (.i2l, 1) := by decide +kernel
theorem dL_let_13 : decode cL_let 13 = .ok (.lastore, 1) := by decide +kernel
theorem dL_let_14 : decode cL_let 14 = .ok (.goto 15, 3) := by decide +kernel
theorem dL_let_17 : decode cL_let 17 = .ok (.astore 6, 2) := by decide +kernel
theorem dL_let_19 : decode cL_let 19 = .ok (.iconst 1, 1) := by decide +kernel
theorem dL_let_20 : decode cL_let 20 = .ok (.ireturn, 1) := by decide +kernel
theorem dL_let_21 : decode cL_let 21 = .ok (.astore 6, 2) := by decide +kernel
theorem dL_let_23 : decode cL_let 23 = .ok (.iconst 2, 1) := by decide +kernel
theorem dL_let_24 : decode cL_let 24 = .ok (.ireturn, 1) := by decide +kernel
theorem dL_let_25 : decode cL_let 25 = .ok (.astore 6, 2) := by decide +kernel
theorem dL_let_27 : decode cL_let 27 = .ok (.iconst 3, 1) := by decide +kernel
theorem dL_let_28 : decode cL_let 28 = .ok (.ireturn, 1) := by decide +kernel
theorem dL_let_29 : decode cL_let 29 = .ok (.iconst 0, 1) := by decide +kernel
theorem dL_let_30 : decode cL_let 30 = .ok (.ireturn, 1) := by decide +kernel
set_option maxRecDepth 20000 in
theorem ggL_end_X1_end : GoodIn wsL_end wsX1_end := goodIn_ca (goodIn_ca (goodIn_r _ [7, 8, 9, 10, 6, 11, 12, 13, 14, 15, 16, 17, 18, 19, 20, 21, 22, 23, 24, 25, 26, 27, 28, 29, 30, 31, 32, 33, 34, 35, 36, 37, 38, 39] (by decide +kernel) (by decide +kernel)) (goodIn_sub (fun _ h => List.mem_cons_of_mem _ (List.mem_append_left _ (List.mem_append_right _ h))) (by decide +kernel))) (goodIn_sub (fun _ h => List.mem_cons_of_mem _ (List.mem_append_right _ h)) (by decide +kernel))
set_option maxRecDepth 20000 in
theorem gL_end_X1_end : GoodIn wsL_end (wsV RL 29 RX1 yX1_end wsX1_end) := goodIn_app (goodIn_of _ (by decide +kernel)) ggL_end_X1_end
theorem dL_end_0 : decode cL_end 0 = .ok (.aload_n 3, 1) := by decide +kernel
theorem dL_end_1 : decode cL_end 1 = .ok (.iconst 0, 1) := by decide +kernel
theorem dL_end_2 : decode cL_end 2 = .ok (.aload_n 0, 1) := by decide +kernel
theorem dL_end_3 : decode cL_end 3 = .ok (.iload_n 1, 1) := by decide +kernel
theorem dL_end_4 : decode cL_end 4 = .ok (.iload_n 2, 1) := by decide +kernel
theorem dL_end_5 : decode cL_end 5 = .ok (.invokevirtual 29, 3) := by decide +kernel
theorem dL_end_8 : decode cL_end 8 = .ok (.i2l, 1) := by decide +kernel
theorem dL_end_9 : decode cL_end 9 = .ok (.lastore, 1) := by decide +kernel
theorem dL_end_10 : decode cL_end 10 = .ok (.goto 11, 3) := by decide +kernel
theorem dL_end_13 : decode cL_end 13 = .ok (.astore 4, 2) := by decide +kernel
theorem dL_end_15 : decode cL_end 15 = .ok (.iconst 1, 1) := by decide +kernel
theorem dL_end_16 : decode cL_end 16 = .ok (.ireturn, 1) := by decide +kernel
theorem dL_end_17 : decode cL_end 17 = .ok (.astore 4, 2) := by decide +kernel
theorem dL_end_19 : decode cL_end 19 = .ok (.iconst 2, 1) := by decide +kernel
theorem dL_end_20 : decode cL_end 20 = .ok (.ireturn, 1) := by decide +kernel
theorem dL_end_21 : decode cL_end 21 = .ok (.iconst 0, 1) := by decide +kernel
theorem dL_end_22 : decode cL_end 22 = .ok (.ireturn, 1) := by decide +kernel
set_option maxRecDepth 20000 in
theorem ggL_step_X1_step : GoodIn wsL_step wsX1_step := goodIn_ca (goodIn_ca (goodIn_ca (goodIn_r _ [8, 9, 10, 11, 12, 13, 14, 7, 15, 16, 17, 18, 19, 20, 21, 22, 23, 24, 25, 26, 27, 28, 29, 30, 31, 32, 33, 34, 35, 36, 37, 38, 39, 40, 41, 42, 43, 44, 45, 46, 47, 48, 49, 50, 51, 52, 53, 54, 55] (by decide +kernel) (by decide +kernel)) (goodIn_sub (fun _ h => List.mem_cons_of_mem _ (List.mem_append_left _ (List.mem_append_left _ (List.mem_append_right _ h)))) (by decide +kernel))) (goodIn_sub (fun _ h => List.mem_cons_of_mem _ (List.mem_append_left _ (List.mem_append_right _ h))) (by decide +kernel))) (goodIn_sub (fun _ h => List.mem_cons_of_mem _ (List.mem_append_right _ h)) (by decide +kernel))
set_option maxRecDepth 20000 in
theorem gL_step_X1_step : GoodIn wsL_step (wsV RL 32 RX1 yX1_step wsX1_step) := goodIn_app (goodIn_of _ (by decide +kernel)) ggL_step_X1_step
theorem dL_step_0 : decode cL_step 0 = .ok (.aload 4, 2) := by decide +kernel
theorem dL_step_2 : decode cL_step 2 = .ok (.iconst 0, 1) := by decide +kernel
theorem dL_step_3 : decode cL_step 3 = .ok (.aload_n 0, 1) := by decide +kernel
theorem dL_step_4 : decode cL_step 4 = .ok (.iload_n 1, 1) := by decide +kernel
theorem dL_step_5 : decode cL_step 5 = .ok (.iload_n 2, 1) := by decide +kernel
theorem dL_step_6 : decode cL_step 6 = .ok (.iload_n 3, 1) := by decide +kernel
theorem dL_step_7 : decode cL_step 7 = .ok (.invokevirtual 32, 3) := by decide +kernel
theorem dL_step_10 : decode cL_step 10 = .ok (.i2l, 1) := by decide +kernel
theorem dL_step_11 : decode cL_step 11 = .ok (.lastore, 1) := by decide +kernel
theorem dL_step_12 : decode cL_step 12 = .ok (.goto 15, 3) := by decide +kernel
theorem dL_step_15 : decode cL_step 15 = .ok (.astore 5, 2) := by decide +kernel
theorem dL_step_17 : decode cL_step 17 = .ok (.iconst 1, 1) := by decide +kernel
theorem dL_step_18 : decode cL_step 18 = .ok (.ireturn, 1) := by decide +kernel
theorem dL_step_19 : decode cL_step 19 = .ok (.astore 5, 2) := by decide +kernel
theorem dL_step_21 : decode cL_step 21 = .ok (.iconst 2, 1) := by decide +kernel
theorem dL_step_22 : decode cL_step 22 = .ok (.ireturn, 1) := by decide +kernel
theorem dL_step_23 : decode cL_step 23 = .ok (.astore 5, 2) := by decide +kernel
theorem dL_step_25 : decode cL_step 25 = .ok (.iconst 3, 1) := by decide +kernel
theorem dL_step_26 : decode cL_step 26 = .ok (.ireturn, 1) := by decide +kernel
theorem dL_step_27 : decode cL_step 27 = .ok (.iconst 0, 1) := by decide +kernel
theorem dL_step_28 : decode cL_step 28 = .ok (.ireturn, 1) := by decide +kernel
set_option maxRecDepth 20000 in
theorem ggL_setTerms_X1_setTerms : GoodIn wsL_setTerms wsX1_setTerms := goodIn_ca (goodIn_ca (goodIn_r _ [7, 8, 9, 10, 6, 11, 12, 13, 14, 15, 16, 17, 18, 19, 20, 21, 22, 23, 24, 25, 26, 27, 28, 29, 30, 31, 32, 33, 34, 35, 36, 37, 38, 39] (by decide +kernel) (by decide +kernel)) (goodIn_sub (fun _ h => List.mem_cons_of_mem _ (List.mem_append_left _ (List.mem_append_right _ h))) (by decide +kernel))) (goodIn_sub (fun _ h => List.mem_cons_of_mem _ (List.mem_append_right _ h)) (by decide +kernel))
set_option maxRecDepth 20000 in
theorem gL_setTerms_X1_setTerms : GoodIn wsL_setTerms (wsV RL 36 RX1 yX1_setTerms wsX1_setTerms) := goodIn_app (goodIn_of _ (by decide +kernel)) ggL_setTerms_X1_setTerms
theorem dL_setTerms_0 : decode cL_setTerms 0 = .ok (.aload_n 0, 1) := by decide +kernel
theorem dL_setTerms_1 : decode cL_setTerms 1 = .ok (.iload_n 1, 1) := by decide +kernel
theorem dL_setTerms_2 : decode cL_setTerms 2 = .ok (.iload_n 2, 1) := by decide +kernel
theorem dL_setTerms_3 : decode cL_setTerms 3 = .ok (.iload_n 3, 1) := by decide +kernel
theorem dL_setTerms_4 : decode cL_setTerms 4 = .ok (.invokevirtual 36, 3) := by decide +kernel
theorem dL_setTerms_7 : decode cL_setTerms 7 = .ok (.goto 11, 3) := by decide +kernel
theorem dL_setTerms_10 : decode cL_setTerms 10 = .ok (.astore 4, 2) := by decide +kernel
theorem dL_setTerms_12 : decode cL_setTerms 12 = .ok (.iconst 1, 1) := by decide +kernel
theorem dL_setTerms_13 : decode cL_setTerms 13 = .ok (.ireturn, 1) := by decide +kernel
theorem dL_setTerms_14 : decode cL_setTerms 14 = .ok (.astore 4, 2) := by decide +kernel
theorem dL_setTerms_16 : decode cL_setTerms 16 = .ok (.iconst 2, 1) := by decide +kernel
theorem dL_setTerms_17 : decode cL_setTerms 17 = .ok (.ireturn, 1) := by decide +kernel
theorem dL_setTerms_18 : decode cL_setTerms 18 = .ok (.iconst 0, 1) := by decide +kernel
theorem dL_setTerms_19 : decode cL_setTerms 19 = .ok (.ireturn, 1) := by decide +kernel
set_option maxRecDepth 20000 in
theorem ggL_setService_X1_setService : GoodIn wsL_setService wsX1_setService := goodIn_ca (goodIn_ca (goodIn_r _ [7, 8, 9, 10, 11, 6, 12, 13, 14, 15, 16, 17, 18, 19, 20, 21, 22, 23, 24, 25, 26, 27, 28, 29, 30, 31, 32, 33, 34, 35, 36, 37, 38, 39, 40] (by decide +kernel) (by decide +kernel)) (goodIn_sub (fun _ h => List.mem_cons_of_mem _ (List.mem_append_left _ (List.mem_append_right _ h))) (by decide +kernel))) (goodIn_sub (fun _ h => List.mem_cons_of_mem _ (List.mem_append_right _ h)) (by decide +kernel))
set_option maxRecDepth 20000 in
theorem gL_setService_X1_setService : GoodIn wsL_setService (wsV RL 40 RX1 yX1_setService wsX1_setService) := goodIn_app (goodIn_of _ (by decide +kernel)) ggL_setService_X1_setService
theorem dL_setService_0 : decode cL_setService 0 = .ok (.aload_n 0, 1) := by decide +kernel
theorem dL_setService_1 : decode cL_setService 1 = .ok (.iload_n 1, 1) := by decide +kernel
theorem dL_setService_2 : decode cL_setService 2 = .ok (.iload_n 2, 1) := by decide +kernel
theorem dL_setService_3 : decode cL_setService 3 = .ok (.iload_n 3, 1) := by decide +kernel
theorem dL_setService_4 : decode cL_setService 4 = .ok (.invokevirtual 40, 3) := by decide +kernel
theorem dL_setService_7 : decode cL_setService 7 = .ok (.goto 11, 3) := by decide +kernel
theorem dL_setService_10 : decode cL_setService 10 = .ok (.astore 4, 2) := by decide +kernel
theorem dL_setService_12 : decode cL_setService 12 = .ok (.iconst 1, 1) := by decide +kernel
theorem dL_setService_13 : decode cL_setService 13 = .ok (.ireturn, 1) := by decide +kernel
theorem dL_setService_14 : decode cL_setService 14 = .ok (.astore 4, 2) := by decide +kernel
theorem dL_setService_16 : decode cL_setService 16 = .ok (.iconst 2, 1) := by decide +kernel
theorem dL_setService_17 : decode cL_setService 17 = .ok (.ireturn, 1) := by decide +kernel
theorem dL_setService_18 : decode cL_setService 18 = .ok (.iconst 0, 1) := by decide +kernel
theorem dL_setService_19 : decode cL_setService 19 = .ok (.ireturn, 1) := by decide +kernel
set_option maxRecDepth 20000 in
theorem ggL_topUp_X1_topUp : GoodIn wsL_topUp wsX1_topUp := goodIn_ca (goodIn_ca (goodIn_r _ [7, 8, 9, 10, 11, 12, 13, 14, 6, 15, 16, 17, 18, 19, 20, 21, 22, 23, 24, 25, 26, 27, 28, 29, 30, 31, 32, 33, 34, 35, 36, 37, 38, 39, 40, 41, 42, 43, 44, 45, 46, 47, 48, 49, 50, 51, 52, 53, 54, 55, 56, 57, 58, 59, 60, 61, 62, 63, 64, 65, 66, 67, 68, 69, 70, 71, 72, 73, 74, 75, 76, 77, 78, 79, 80] (by decide +kernel) (by decide +kernel)) (goodIn_sub (fun _ h => List.mem_cons_of_mem _ (List.mem_append_left _ (List.mem_append_right _ h))) (by decide +kernel))) (goodIn_sub (fun _ h => List.mem_cons_of_mem _ (List.mem_append_right _ h)) (by decide +kernel))
set_option maxRecDepth 20000 in
theorem gL_topUp_X1_topUp : GoodIn wsL_topUp (wsV RL 43 RX1 yX1_topUp wsX1_topUp) := goodIn_app (goodIn_of _ (by decide +kernel)) ggL_topUp_X1_topUp
theorem dL_topUp_0 : decode cL_topUp 0 = .ok (.aload 4, 2) := by decide +kernel
theorem dL_topUp_2 : decode cL_topUp 2 = .ok (.iconst 0, 1) := by decide +kernel
theorem dL_topUp_3 : decode cL_topUp 3 = .ok (.aload_n 0, 1) := by decide +kernel
theorem dL_topUp_4 : decode cL_topUp 4 = .ok (.iload_n 1, 1) := by decide +kernel
theorem dL_topUp_5 : decode cL_topUp 5 = .ok (.iload_n 2, 1) := by decide +kernel
theorem dL_topUp_6 : decode cL_topUp 6 = .ok (.iload_n 3, 1) := by decide +kernel
theorem dL_topUp_7 : decode cL_topUp 7 = .ok (.invokevirtual 43, 3) := by decide +kernel
theorem dL_topUp_10 : decode cL_topUp 10 = .ok (.i2l, 1) := by decide +kernel
theorem dL_topUp_11 : decode cL_topUp 11 = .ok (.lastore, 1) := by decide +kernel
theorem dL_topUp_12 : decode cL_topUp 12 = .ok (.goto 11, 3) := by decide +kernel
theorem dL_topUp_15 : decode cL_topUp 15 = .ok (.astore 5, 2) := by decide +kernel
theorem dL_topUp_17 : decode cL_topUp 17 = .ok (.iconst 1, 1) := by decide +kernel
theorem dL_topUp_18 : decode cL_topUp 18 = .ok (.ireturn, 1) := by decide +kernel
theorem dL_topUp_19 : decode cL_topUp 19 = .ok (.astore 5, 2) := by decide +kernel
theorem dL_topUp_21 : decode cL_topUp 21 = .ok (.iconst 2, 1) := by decide +kernel
theorem dL_topUp_22 : decode cL_topUp 22 = .ok (.ireturn, 1) := by decide +kernel
theorem dL_topUp_23 : decode cL_topUp 23 = .ok (.iconst 0, 1) := by decide +kernel
theorem dL_topUp_24 : decode cL_topUp 24 = .ok (.ireturn, 1) := by decide +kernel
set_option maxRecDepth 20000 in
theorem ggL_draw_X1_draw : GoodIn wsL_draw wsX1_draw := goodIn_ca (goodIn_ca (goodIn_ca (goodIn_r _ [8, 9, 10, 11, 12, 13, 14, 7, 15, 16, 17, 18, 19, 20, 21, 22, 23, 24, 25, 26, 27, 28, 29, 30, 31, 32, 33, 34, 35, 36, 37, 38, 39, 40, 41, 42, 43] (by decide +kernel) (by decide +kernel)) (goodIn_sub (fun _ h => List.mem_cons_of_mem _ (List.mem_append_left _ (List.mem_append_left _ (List.mem_append_right _ h)))) (by decide +kernel))) (goodIn_sub (fun _ h => List.mem_cons_of_mem _ (List.mem_append_left _ (List.mem_append_right _ h))) (by decide +kernel))) (goodIn_sub (fun _ h => List.mem_cons_of_mem _ (List.mem_append_right _ h)) (by decide +kernel))
set_option maxRecDepth 20000 in
theorem gL_draw_X1_draw : GoodIn wsL_draw (wsV RL 46 RX1 yX1_draw wsX1_draw) := goodIn_app (goodIn_of _ (by decide +kernel)) ggL_draw_X1_draw
theorem dL_draw_0 : decode cL_draw 0 = .ok (.aload_n 3, 1) := by decide +kernel
theorem dL_draw_1 : decode cL_draw 1 = .ok (.iconst 0, 1) := by decide +kernel
theorem dL_draw_2 : decode cL_draw 2 = .ok (.aload_n 0, 1) := by decide +kernel
theorem dL_draw_3 : decode cL_draw 3 = .ok (.iload_n 1, 1) := by decide +kernel
theorem dL_draw_4 : decode cL_draw 4 = .ok (.iload_n 2, 1) := by decide +kernel
theorem dL_draw_5 : decode cL_draw 5 = .ok (.invokevirtual 46, 3) := by decide +kernel
theorem dL_draw_8 : decode cL_draw 8 = .ok (.i2l, 1) := by decide +kernel
theorem dL_draw_9 : decode cL_draw 9 = .ok (.lastore, 1) := by decide +kernel
theorem dL_draw_10 : decode cL_draw 10 = .ok (.goto 15, 3) := by decide +kernel
theorem dL_draw_13 : decode cL_draw 13 = .ok (.astore 4, 2) := by decide +kernel
theorem dL_draw_15 : decode cL_draw 15 = .ok (.iconst 1, 1) := by decide +kernel
theorem dL_draw_16 : decode cL_draw 16 = .ok (.ireturn, 1) := by decide +kernel
theorem dL_draw_17 : decode cL_draw 17 = .ok (.astore 4, 2) := by decide +kernel
theorem dL_draw_19 : decode cL_draw 19 = .ok (.iconst 2, 1) := by decide +kernel
theorem dL_draw_20 : decode cL_draw 20 = .ok (.ireturn, 1) := by decide +kernel
theorem dL_draw_21 : decode cL_draw 21 = .ok (.astore 4, 2) := by decide +kernel
theorem dL_draw_23 : decode cL_draw 23 = .ok (.iconst 3, 1) := by decide +kernel
theorem dL_draw_24 : decode cL_draw 24 = .ok (.ireturn, 1) := by decide +kernel
theorem dL_draw_25 : decode cL_draw 25 = .ok (.iconst 0, 1) := by decide +kernel
theorem dL_draw_26 : decode cL_draw 26 = .ok (.ireturn, 1) := by decide +kernel
set_option maxRecDepth 20000 in
theorem ggL_held_X1_held : GoodIn wsL_held wsX1_held := goodIn_ca (goodIn_r _ [6, 7, 8, 9, 5, 10, 11, 12, 13, 14, 15, 16, 17, 18, 19, 20, 21, 22, 23, 24, 25, 26, 27, 28, 29, 30, 31, 32, 33] (by decide +kernel) (by decide +kernel)) (goodIn_sub (fun _ h => List.mem_cons_of_mem _ (List.mem_append_right _ h)) (by decide +kernel))
set_option maxRecDepth 20000 in
theorem gL_held_X1_held : GoodIn wsL_held (wsV RL 49 RX1 yX1_held wsX1_held) := goodIn_app (goodIn_of _ (by decide +kernel)) ggL_held_X1_held
theorem dL_held_0 : decode cL_held 0 = .ok (.aload_n 2, 1) := by decide +kernel
theorem dL_held_1 : decode cL_held 1 = .ok (.iconst 0, 1) := by decide +kernel
theorem dL_held_2 : decode cL_held 2 = .ok (.aload_n 0, 1) := by decide +kernel
theorem dL_held_3 : decode cL_held 3 = .ok (.iload_n 1, 1) := by decide +kernel
theorem dL_held_4 : decode cL_held 4 = .ok (.invokevirtual 49, 3) := by decide +kernel
theorem dL_held_7 : decode cL_held 7 = .ok (.i2l, 1) := by decide +kernel
theorem dL_held_8 : decode cL_held 8 = .ok (.lastore, 1) := by decide +kernel
theorem dL_held_9 : decode cL_held 9 = .ok (.goto 6, 3) := by decide +kernel
theorem dL_held_12 : decode cL_held 12 = .ok (.astore_n 3, 1) := by decide +kernel
theorem dL_held_13 : decode cL_held 13 = .ok (.iconst 1, 1) := by decide +kernel
theorem dL_held_14 : decode cL_held 14 = .ok (.ireturn, 1) := by decide +kernel
theorem dL_held_15 : decode cL_held 15 = .ok (.iconst 0, 1) := by decide +kernel
theorem dL_held_16 : decode cL_held 16 = .ok (.ireturn, 1) := by decide +kernel
set_option maxRecDepth 20000 in
theorem ggL_leaseOn_X1_leaseOn : GoodIn wsL_leaseOn wsX1_leaseOn := goodIn_ca (goodIn_r _ [6, 7, 8, 9, 10, 5, 11, 12, 13, 14, 15, 16, 17, 18, 19, 20, 21, 22, 23, 24, 25, 26, 27, 28, 29, 30, 31, 32, 33, 34, 35, 36, 37] (by decide +kernel) (by decide +kernel)) (goodIn_sub (fun _ h => List.mem_cons_of_mem _ (List.mem_append_right _ h)) (by decide +kernel))
set_option maxRecDepth 20000 in
theorem gL_leaseOn_X1_leaseOn : GoodIn wsL_leaseOn (wsV RL 53 RX1 yX1_leaseOn wsX1_leaseOn) := goodIn_app (goodIn_of _ (by decide +kernel)) ggL_leaseOn_X1_leaseOn
theorem dL_leaseOn_0 : decode cL_leaseOn 0 = .ok (.aload_n 3, 1) := by decide +kernel
theorem dL_leaseOn_1 : decode cL_leaseOn 1 = .ok (.iconst 0, 1) := by decide +kernel
theorem dL_leaseOn_2 : decode cL_leaseOn 2 = .ok (.aload_n 0, 1) := by decide +kernel
theorem dL_leaseOn_3 : decode cL_leaseOn 3 = .ok (.iload_n 1, 1) := by decide +kernel
theorem dL_leaseOn_4 : decode cL_leaseOn 4 = .ok (.iload_n 2, 1) := by decide +kernel
theorem dL_leaseOn_5 : decode cL_leaseOn 5 = .ok (.invokevirtual 53, 3) := by decide +kernel
theorem dL_leaseOn_8 : decode cL_leaseOn 8 = .ok (.i2l, 1) := by decide +kernel
theorem dL_leaseOn_9 : decode cL_leaseOn 9 = .ok (.lastore, 1) := by decide +kernel
theorem dL_leaseOn_10 : decode cL_leaseOn 10 = .ok (.goto 7, 3) := by decide +kernel
theorem dL_leaseOn_13 : decode cL_leaseOn 13 = .ok (.astore 4, 2) := by decide +kernel
theorem dL_leaseOn_15 : decode cL_leaseOn 15 = .ok (.iconst 1, 1) := by decide +kernel
theorem dL_leaseOn_16 : decode cL_leaseOn 16 = .ok (.ireturn, 1) := by decide +kernel
theorem dL_leaseOn_17 : decode cL_leaseOn 17 = .ok (.iconst 0, 1) := by decide +kernel
theorem dL_leaseOn_18 : decode cL_leaseOn 18 = .ok (.ireturn, 1) := by decide +kernel
set_option maxRecDepth 20000 in
theorem ggL_rentOn_X1_rentOn : GoodIn wsL_rentOn wsX1_rentOn := goodIn_ca (goodIn_r _ [6, 7, 8, 9, 5, 10, 11, 12, 13, 14, 15, 16, 17, 18, 19, 20, 21, 22, 23, 24, 25, 26, 27, 28, 29, 30, 31, 32, 33, 34, 35, 36, 37, 38, 39, 40, 41, 42, 43, 44, 45, 46, 47, 48, 49, 50, 51, 52, 53, 54, 55, 56, 57, 58, 59, 60, 61, 62, 63, 64, 65, 66, 67, 68, 69, 70, 71, 72, 73, 74] (by decide +kernel) (by decide +kernel)) (goodIn_sub (fun _ h => List.mem_cons_of_mem _ (List.mem_append_right _ h)) (by decide +kernel))
set_option maxRecDepth 20000 in
theorem gL_rentOn_X1_rentOn : GoodIn wsL_rentOn (wsV RL 56 RX1 yX1_rentOn wsX1_rentOn) := goodIn_app (goodIn_of _ (by decide +kernel)) ggL_rentOn_X1_rentOn
theorem dL_rentOn_0 : decode cL_rentOn 0 = .ok (.aload_n 3, 1) := by decide +kernel
theorem dL_rentOn_1 : decode cL_rentOn 1 = .ok (.iconst 0, 1) := by decide +kernel
theorem dL_rentOn_2 : decode cL_rentOn 2 = .ok (.aload_n 0, 1) := by decide +kernel
theorem dL_rentOn_3 : decode cL_rentOn 3 = .ok (.iload_n 1, 1) := by decide +kernel
theorem dL_rentOn_4 : decode cL_rentOn 4 = .ok (.iload_n 2, 1) := by decide +kernel
theorem dL_rentOn_5 : decode cL_rentOn 5 = .ok (.invokevirtual 56, 3) := by decide +kernel
theorem dL_rentOn_8 : decode cL_rentOn 8 = .ok (.i2l, 1) := by decide +kernel
theorem dL_rentOn_9 : decode cL_rentOn 9 = .ok (.lastore, 1) := by decide +kernel
theorem dL_rentOn_10 : decode cL_rentOn 10 = .ok (.goto 7, 3) := by decide +kernel
theorem dL_rentOn_13 : decode cL_rentOn 13 = .ok (.astore 4, 2) := by decide +kernel
theorem dL_rentOn_15 : decode cL_rentOn 15 = .ok (.iconst 1, 1) := by decide +kernel
theorem dL_rentOn_16 : decode cL_rentOn 16 = .ok (.ireturn, 1) := by decide +kernel
theorem dL_rentOn_17 : decode cL_rentOn 17 = .ok (.iconst 0, 1) := by decide +kernel
theorem dL_rentOn_18 : decode cL_rentOn 18 = .ok (.ireturn, 1) := by decide +kernel
set_option maxRecDepth 20000 in
theorem ggL_bill_X1_bill : GoodIn wsL_bill wsX1_bill := goodIn_ca (goodIn_r _ [6, 7, 8, 9, 5, 10, 11, 12, 13, 14, 15, 16, 17, 18, 19, 20, 21, 22, 23, 24, 25, 26, 27, 28, 29, 30, 31, 32, 33, 34, 35, 36, 37, 38, 39, 40, 41, 42, 43, 44, 45, 46, 47, 48, 49, 50, 51, 52, 53, 54, 55, 56, 57, 58, 59, 60, 61, 62, 63, 64, 65, 66, 67, 68, 69, 70, 71, 72, 73, 74, 75, 76, 77, 78, 79, 80, 81, 82, 83, 84, 85, 86, 87, 88, 89] (by decide +kernel) (by decide +kernel)) (goodIn_sub (fun _ h => List.mem_cons_of_mem _ (List.mem_append_right _ h)) (by decide +kernel))
set_option maxRecDepth 20000 in
theorem gL_bill_X1_bill : GoodIn wsL_bill (wsV RL 59 RX1 yX1_bill wsX1_bill) := goodIn_app (goodIn_of _ (by decide +kernel)) ggL_bill_X1_bill
theorem dL_bill_0 : decode cL_bill 0 = .ok (.aload_n 3, 1) := by decide +kernel
theorem dL_bill_1 : decode cL_bill 1 = .ok (.iconst 0, 1) := by decide +kernel
theorem dL_bill_2 : decode cL_bill 2 = .ok (.aload_n 0, 1) := by decide +kernel
theorem dL_bill_3 : decode cL_bill 3 = .ok (.iload_n 1, 1) := by decide +kernel
theorem dL_bill_4 : decode cL_bill 4 = .ok (.iload_n 2, 1) := by decide +kernel
theorem dL_bill_5 : decode cL_bill 5 = .ok (.invokevirtual 59, 3) := by decide +kernel
theorem dL_bill_8 : decode cL_bill 8 = .ok (.i2l, 1) := by decide +kernel
theorem dL_bill_9 : decode cL_bill 9 = .ok (.lastore, 1) := by decide +kernel
theorem dL_bill_10 : decode cL_bill 10 = .ok (.goto 7, 3) := by decide +kernel
theorem dL_bill_13 : decode cL_bill 13 = .ok (.astore 4, 2) := by decide +kernel
theorem dL_bill_15 : decode cL_bill 15 = .ok (.iconst 1, 1) := by decide +kernel
theorem dL_bill_16 : decode cL_bill 16 = .ok (.ireturn, 1) := by decide +kernel
theorem dL_bill_17 : decode cL_bill 17 = .ok (.iconst 0, 1) := by decide +kernel
theorem dL_bill_18 : decode cL_bill 18 = .ok (.ireturn, 1) := by decide +kernel
set_option maxRecDepth 20000 in
theorem ggL_billByDays_X1_billByDays : GoodIn wsL_billByDays wsX1_billByDays := goodIn_ca (goodIn_r _ [6, 7, 8, 9, 5, 10, 11, 12, 13, 14, 15, 16, 17, 18, 19, 20, 21, 22, 23, 24, 25, 26, 27, 28, 29, 30, 31, 32, 33, 34, 35, 36, 37, 38, 39, 40, 41, 42, 43, 44, 45, 46, 47, 48, 49, 50, 51, 52, 53, 54, 55, 56, 57, 58, 59, 60, 61, 62, 63, 64, 65, 66, 67, 68, 69, 70, 71, 72, 73, 74] (by decide +kernel) (by decide +kernel)) (goodIn_sub (fun _ h => List.mem_cons_of_mem _ (List.mem_append_right _ h)) (by decide +kernel))
set_option maxRecDepth 20000 in
theorem gL_billByDays_X1_billByDays : GoodIn wsL_billByDays (wsV RL 62 RX1 yX1_billByDays wsX1_billByDays) := goodIn_app (goodIn_of _ (by decide +kernel)) ggL_billByDays_X1_billByDays
theorem dL_billByDays_0 : decode cL_billByDays 0 = .ok (.aload_n 3, 1) := by decide +kernel
theorem dL_billByDays_1 : decode cL_billByDays 1 = .ok (.iconst 0, 1) := by decide +kernel
theorem dL_billByDays_2 : decode cL_billByDays 2 = .ok (.aload_n 0, 1) := by decide +kernel
theorem dL_billByDays_3 : decode cL_billByDays 3 = .ok (.iload_n 1, 1) := by decide +kernel
theorem dL_billByDays_4 : decode cL_billByDays 4 = .ok (.iload_n 2, 1) := by decide +kernel
theorem dL_billByDays_5 : decode cL_billByDays 5 = .ok (.invokevirtual 62, 3) := by decide +kernel
theorem dL_billByDays_8 : decode cL_billByDays 8 = .ok (.i2l, 1) := by decide +kernel
theorem dL_billByDays_9 : decode cL_billByDays 9 = .ok (.lastore, 1) := by decide +kernel
theorem dL_billByDays_10 : decode cL_billByDays 10 = .ok (.goto 7, 3) := by decide +kernel
theorem dL_billByDays_13 : decode cL_billByDays 13 = .ok (.astore 4, 2) := by decide +kernel
theorem dL_billByDays_15 : decode cL_billByDays 15 = .ok (.iconst 1, 1) := by decide +kernel
theorem dL_billByDays_16 : decode cL_billByDays 16 = .ok (.ireturn, 1) := by decide +kernel
theorem dL_billByDays_17 : decode cL_billByDays 17 = .ok (.iconst 0, 1) := by decide +kernel
theorem dL_billByDays_18 : decode cL_billByDays 18 = .ok (.ireturn, 1) := by decide +kernel
set_option maxRecDepth 20000 in
theorem ggL_bills_X1_bills : GoodIn wsL_bills wsX1_bills := goodIn_ca (goodIn_ca (goodIn_r _ [7, 8, 9, 10, 6, 11, 12, 13, 14, 15, 16, 17, 18, 19, 20, 21, 22, 23, 24, 25, 26, 27, 28, 29, 30, 31, 32, 33, 34, 35, 36, 37, 38, 39, 40, 41, 42, 43, 44, 45, 46, 47, 48, 49, 50, 51, 52, 53, 54, 55, 56, 57, 58, 59, 60, 61, 62, 63, 64, 65, 66, 67, 68, 69, 70, 71, 72, 73, 74, 75, 76, 77, 78, 79, 80, 81, 82, 83, 84, 85, 86, 87, 88, 89, 90, 91, 92, 93, 94, 95] (by decide +kernel) (by decide +kernel)) (goodIn_sub (fun _ h => List.mem_cons_of_mem _ (List.mem_append_left _ (List.mem_append_right _ h))) (by decide +kernel))) (goodIn_sub (fun _ h => List.mem_cons_of_mem _ (List.mem_append_right _ h)) (by decide +kernel))
set_option maxRecDepth 20000 in
theorem gL_bills_X1_bills : GoodIn wsL_bills (wsV RL 65 RX1 yX1_bills wsX1_bills) := goodIn_app (goodIn_of _ (by decide +kernel)) ggL_bills_X1_bills
theorem dL_bills_0 : decode cL_bills 0 = .ok (.aload 4, 2) := by decide +kernel
theorem dL_bills_2 : decode cL_bills 2 = .ok (.iconst 0, 1) := by decide +kernel
theorem dL_bills_3 : decode cL_bills 3 = .ok (.aload_n 0, 1) := by decide +kernel
theorem dL_bills_4 : decode cL_bills 4 = .ok (.iload_n 1, 1) := by decide +kernel
theorem dL_bills_5 : decode cL_bills 5 = .ok (.iload_n 2, 1) := by decide +kernel
theorem dL_bills_6 : decode cL_bills 6 = .ok (.iload_n 3, 1) := by decide +kernel
theorem dL_bills_7 : decode cL_bills 7 = .ok (.invokevirtual 65, 3) := by decide +kernel
theorem dL_bills_10 : decode cL_bills 10 = .ok (.lastore, 1) := by decide +kernel
theorem dL_bills_11 : decode cL_bills 11 = .ok (.goto 11, 3) := by decide +kernel
theorem dL_bills_14 : decode cL_bills 14 = .ok (.astore 5, 2) := by decide +kernel
theorem dL_bills_16 : decode cL_bills 16 = .ok (.iconst 1, 1) := by decide +kernel
theorem dL_bills_17 : decode cL_bills 17 = .ok (.ireturn, 1) := by decide +kernel
theorem dL_bills_18 : decode cL_bills 18 = .ok (.astore 5, 2) := by decide +kernel
theorem dL_bills_20 : decode cL_bills 20 = .ok (.iconst 2, 1) := by decide +kernel
theorem dL_bills_21 : decode cL_bills 21 = .ok (.ireturn, 1) := by decide +kernel
theorem dL_bills_22 : decode cL_bills 22 = .ok (.iconst 0, 1) := by decide +kernel
theorem dL_bills_23 : decode cL_bills 23 = .ok (.ireturn, 1) := by decide +kernel
set_option maxRecDepth 20000 in
theorem ggL_nextChange_X1_nextChange : GoodIn wsL_nextChange wsX1_nextChange := goodIn_ca (goodIn_r _ [6, 7, 8, 9, 5, 10, 11, 12, 13, 14, 15, 16, 17, 18, 19, 20, 21, 22, 23, 24, 25, 26, 27, 28, 29, 30, 31, 32, 33, 34, 35, 36, 37, 38, 39, 40, 41, 42, 43, 44, 45, 46, 47, 48, 49, 50, 51, 52, 53, 54, 55, 56, 57, 58, 59, 60, 61, 62, 63, 64, 65, 66, 67, 68, 69, 70, 71, 72, 73, 74, 75, 76, 77, 78, 79, 80, 81, 82] (by decide +kernel) (by decide +kernel)) (goodIn_sub (fun _ h => List.mem_cons_of_mem _ (List.mem_append_right _ h)) (by decide +kernel))
set_option maxRecDepth 20000 in
theorem gL_nextChange_X1_nextChange : GoodIn wsL_nextChange (wsV RL 69 RX1 yX1_nextChange wsX1_nextChange) := goodIn_app (goodIn_of _ (by decide +kernel)) ggL_nextChange_X1_nextChange
theorem dL_nextChange_0 : decode cL_nextChange 0 = .ok (.aload_n 3, 1) := by decide +kernel
theorem dL_nextChange_1 : decode cL_nextChange 1 = .ok (.iconst 0, 1) := by decide +kernel
theorem dL_nextChange_2 : decode cL_nextChange 2 = .ok (.aload_n 0, 1) := by decide +kernel
theorem dL_nextChange_3 : decode cL_nextChange 3 = .ok (.iload_n 1, 1) := by decide +kernel
theorem dL_nextChange_4 : decode cL_nextChange 4 = .ok (.iload_n 2, 1) := by decide +kernel
theorem dL_nextChange_5 : decode cL_nextChange 5 = .ok (.invokevirtual 69, 3) := by decide +kernel
theorem dL_nextChange_8 : decode cL_nextChange 8 = .ok (.i2l, 1) := by decide +kernel
theorem dL_nextChange_9 : decode cL_nextChange 9 = .ok (.lastore, 1) := by decide +kernel
theorem dL_nextChange_10 : decode cL_nextChange 10 = .ok (.goto 7, 3) := by decide +kernel
theorem dL_nextChange_13 : decode cL_nextChange 13 = .ok (.astore 4, 2) := by decide +kernel
theorem dL_nextChange_15 : decode cL_nextChange 15 = .ok (.iconst 1, 1) := by decide +kernel
theorem dL_nextChange_16 : decode cL_nextChange 16 = .ok (.ireturn, 1) := by decide +kernel
theorem dL_nextChange_17 : decode cL_nextChange 17 = .ok (.iconst 0, 1) := by decide +kernel
theorem dL_nextChange_18 : decode cL_nextChange 18 = .ok (.ireturn, 1) := by decide +kernel
set_option maxRecDepth 20000 in
theorem ggL_voids_X1_voids : GoodIn wsL_voids wsX1_voids := goodIn_ca (goodIn_r _ [6, 7, 8, 9, 5, 10, 11, 12, 13, 14, 15, 16, 17, 18, 19, 20, 21, 22, 23, 24, 25, 26, 27, 28, 29, 30, 31, 32, 33, 34, 35, 36, 37, 38, 39, 40, 41, 42, 43, 44, 45, 46, 47, 48] (by decide +kernel) (by decide +kernel)) (goodIn_sub (fun _ h => List.mem_cons_of_mem _ (List.mem_append_right _ h)) (by decide +kernel))
set_option maxRecDepth 20000 in
theorem gL_voids_X1_voids : GoodIn wsL_voids (wsV RL 72 RX1 yX1_voids wsX1_voids) := goodIn_app (goodIn_of _ (by decide +kernel)) ggL_voids_X1_voids
theorem dL_voids_0 : decode cL_voids 0 = .ok (.aload_n 3, 1) := by decide +kernel
theorem dL_voids_1 : decode cL_voids 1 = .ok (.iconst 0, 1) := by decide +kernel
theorem dL_voids_2 : decode cL_voids 2 = .ok (.aload_n 0, 1) := by decide +kernel
theorem dL_voids_3 : decode cL_voids 3 = .ok (.iload_n 1, 1) := by decide +kernel
theorem dL_voids_4 : decode cL_voids 4 = .ok (.iload_n 2, 1) := by decide +kernel
theorem dL_voids_5 : decode cL_voids 5 = .ok (.invokevirtual 72, 3) := by decide +kernel
theorem dL_voids_8 : decode cL_voids 8 = .ok (.i2l, 1) := by decide +kernel
theorem dL_voids_9 : decode cL_voids 9 = .ok (.lastore, 1) := by decide +kernel
theorem dL_voids_10 : decode cL_voids 10 = .ok (.goto 7, 3) := by decide +kernel
theorem dL_voids_13 : decode cL_voids 13 = .ok (.astore 4, 2) := by decide +kernel
theorem dL_voids_15 : decode cL_voids 15 = .ok (.iconst 1, 1) := by decide +kernel
theorem dL_voids_16 : decode cL_voids 16 = .ok (.ireturn, 1) := by decide +kernel
theorem dL_voids_17 : decode cL_voids 17 = .ok (.iconst 0, 1) := by decide +kernel
theorem dL_voids_18 : decode cL_voids 18 = .ok (.ireturn, 1) := by decide +kernel
set_option maxRecDepth 20000 in
theorem ggL_part_X1_part : GoodIn wsL_part wsX1_part := goodIn_ca (goodIn_r _ [6, 7, 8, 9, 10, 5, 11, 12, 13, 14, 15, 16, 17, 18, 19, 20, 21, 22, 23, 24, 25, 26, 27, 28, 29, 30, 31, 32, 33, 34, 35, 36, 37, 38, 39, 40, 41, 42, 43, 44, 45, 46, 47, 48, 49, 50, 51, 52, 53, 54, 55, 56, 57, 58, 59, 60, 61, 62, 63, 64, 65, 66] (by decide +kernel) (by decide +kernel)) (goodIn_sub (fun _ h => List.mem_cons_of_mem _ (List.mem_append_right _ h)) (by decide +kernel))
set_option maxRecDepth 20000 in
theorem gL_part_X1_part : GoodIn wsL_part (wsV RL 75 RX1 yX1_part wsX1_part) := goodIn_app (goodIn_of _ (by decide +kernel)) ggL_part_X1_part
theorem dL_part_0 : decode cL_part 0 = .ok (.aload_n 3, 1) := by decide +kernel
theorem dL_part_1 : decode cL_part 1 = .ok (.iconst 0, 1) := by decide +kernel
theorem dL_part_2 : decode cL_part 2 = .ok (.aload_n 0, 1) := by decide +kernel
theorem dL_part_3 : decode cL_part 3 = .ok (.iload_n 1, 1) := by decide +kernel
theorem dL_part_4 : decode cL_part 4 = .ok (.iload_n 2, 1) := by decide +kernel
theorem dL_part_5 : decode cL_part 5 = .ok (.invokevirtual 75, 3) := by decide +kernel
theorem dL_part_8 : decode cL_part 8 = .ok (.i2l, 1) := by decide +kernel
theorem dL_part_9 : decode cL_part 9 = .ok (.lastore, 1) := by decide +kernel
theorem dL_part_10 : decode cL_part 10 = .ok (.goto 7, 3) := by decide +kernel
theorem dL_part_13 : decode cL_part 13 = .ok (.astore 4, 2) := by decide +kernel
theorem dL_part_15 : decode cL_part 15 = .ok (.iconst 1, 1) := by decide +kernel
theorem dL_part_16 : decode cL_part 16 = .ok (.ireturn, 1) := by decide +kernel
theorem dL_part_17 : decode cL_part 17 = .ok (.iconst 0, 1) := by decide +kernel
theorem dL_part_18 : decode cL_part 18 = .ok (.ireturn, 1) := by decide +kernel
set_option maxRecDepth 20000 in
theorem ggL_owners_X1_owners : GoodIn wsL_owners wsX1_owners := goodIn_ca (goodIn_r _ [6, 7, 8, 9, 10, 5, 11, 12, 13, 14, 15, 16, 17, 18, 19, 20, 21, 22, 23, 24, 25, 26, 27, 28, 29, 30, 31, 32, 33, 34, 35, 36, 37, 38, 39, 40, 41, 42, 43, 44, 45, 46, 47, 48, 49, 50, 51, 52, 53, 54, 55, 56, 57, 58, 59, 60, 61, 62] (by decide +kernel) (by decide +kernel)) (goodIn_sub (fun _ h => List.mem_cons_of_mem _ (List.mem_append_right _ h)) (by decide +kernel))
set_option maxRecDepth 20000 in
theorem gL_owners_X1_owners : GoodIn wsL_owners (wsV RL 78 RX1 yX1_owners wsX1_owners) := goodIn_app (goodIn_of _ (by decide +kernel)) ggL_owners_X1_owners
theorem dL_owners_0 : decode cL_owners 0 = .ok (.aload_n 2, 1) := by decide +kernel
theorem dL_owners_1 : decode cL_owners 1 = .ok (.iconst 0, 1) := by decide +kernel
theorem dL_owners_2 : decode cL_owners 2 = .ok (.aload_n 0, 1) := by decide +kernel
theorem dL_owners_3 : decode cL_owners 3 = .ok (.iload_n 1, 1) := by decide +kernel
theorem dL_owners_4 : decode cL_owners 4 = .ok (.invokevirtual 78, 3) := by decide +kernel
theorem dL_owners_7 : decode cL_owners 7 = .ok (.i2l, 1) := by decide +kernel
theorem dL_owners_8 : decode cL_owners 8 = .ok (.lastore, 1) := by decide +kernel
theorem dL_owners_9 : decode cL_owners 9 = .ok (.goto 6, 3) := by decide +kernel
theorem dL_owners_12 : decode cL_owners 12 = .ok (.astore_n 3, 1) := by decide +kernel
theorem dL_owners_13 : decode cL_owners 13 = .ok (.iconst 1, 1) := by decide +kernel
theorem dL_owners_14 : decode cL_owners 14 = .ok (.ireturn, 1) := by decide +kernel
theorem dL_owners_15 : decode cL_owners 15 = .ok (.iconst 0, 1) := by decide +kernel
theorem dL_owners_16 : decode cL_owners 16 = .ok (.ireturn, 1) := by decide +kernel
set_option maxRecDepth 20000 in
theorem ggL_balance_X1_balance : GoodIn wsL_balance wsX1_balance := goodIn_ca (goodIn_r _ [6, 7, 8, 9, 10, 5, 11, 12, 13, 14, 15, 16, 17, 18, 19, 20, 21, 22, 23, 24, 25, 26, 27, 28, 29, 30, 31, 32, 33, 34, 35, 36, 37, 38, 39, 40, 41, 42, 43, 44, 45, 46, 47, 48, 49, 50, 51, 52, 53, 54, 55, 56, 57, 58, 59, 60, 61, 62, 63, 64, 65, 66] (by decide +kernel) (by decide +kernel)) (goodIn_sub (fun _ h => List.mem_cons_of_mem _ (List.mem_append_right _ h)) (by decide +kernel))
set_option maxRecDepth 20000 in
theorem gL_balance_X1_balance : GoodIn wsL_balance (wsV RL 81 RX1 yX1_balance wsX1_balance) := goodIn_app (goodIn_of _ (by decide +kernel)) ggL_balance_X1_balance
theorem dL_balance_0 : decode cL_balance 0 = .ok (.aload_n 3, 1) := by decide +kernel
theorem dL_balance_1 : decode cL_balance 1 = .ok (.iconst 0, 1) := by decide +kernel
theorem dL_balance_2 : decode cL_balance 2 = .ok (.aload_n 0, 1) := by decide +kernel
theorem dL_balance_3 : decode cL_balance 3 = .ok (.iload_n 1, 1) := by decide +kernel
theorem dL_balance_4 : decode cL_balance 4 = .ok (.iload_n 2, 1) := by decide +kernel
theorem dL_balance_5 : decode cL_balance 5 = .ok (.invokevirtual 81, 3) := by decide +kernel
theorem dL_balance_8 : decode cL_balance 8 = .ok (.i2l, 1) := by decide +kernel
theorem dL_balance_9 : decode cL_balance 9 = .ok (.lastore, 1) := by decide +kernel
theorem dL_balance_10 : decode cL_balance 10 = .ok (.goto 7, 3) := by decide +kernel
theorem dL_balance_13 : decode cL_balance 13 = .ok (.astore 4, 2) := by decide +kernel
theorem dL_balance_15 : decode cL_balance 15 = .ok (.iconst 1, 1) := by decide +kernel
theorem dL_balance_16 : decode cL_balance 16 = .ok (.ireturn, 1) := by decide +kernel
theorem dL_balance_17 : decode cL_balance 17 = .ok (.iconst 0, 1) := by decide +kernel
theorem dL_balance_18 : decode cL_balance 18 = .ok (.ireturn, 1) := by decide +kernel
set_option maxRecDepth 20000 in
theorem ggL_share_X1_share : GoodIn wsL_share wsX1_share := goodIn_ca (goodIn_r _ [6, 7, 8, 9, 5, 10, 11, 12, 13, 14, 15, 16, 17, 18, 19, 20, 21] (by decide +kernel) (by decide +kernel)) (goodIn_sub (fun _ h => List.mem_cons_of_mem _ (List.mem_append_right _ h)) (by decide +kernel))
set_option maxRecDepth 20000 in
theorem gL_share_X1_share : GoodIn wsL_share (wsV RL 84 RX1 yX1_share wsX1_share) := goodIn_app (goodIn_of _ (by decide +kernel)) ggL_share_X1_share
theorem dL_share_0 : decode cL_share 0 = .ok (.aload_n 2, 1) := by decide +kernel
theorem dL_share_1 : decode cL_share 1 = .ok (.iconst 0, 1) := by decide +kernel
theorem dL_share_2 : decode cL_share 2 = .ok (.aload_n 0, 1) := by decide +kernel
theorem dL_share_3 : decode cL_share 3 = .ok (.iload_n 1, 1) := by decide +kernel
theorem dL_share_4 : decode cL_share 4 = .ok (.invokevirtual 84, 3) := by decide +kernel
theorem dL_share_7 : decode cL_share 7 = .ok (.dastore, 1) := by decide +kernel
theorem dL_share_8 : decode cL_share 8 = .ok (.goto 6, 3) := by decide +kernel
theorem dL_share_11 : decode cL_share 11 = .ok (.astore_n 3, 1) := by decide +kernel
theorem dL_share_12 : decode cL_share 12 = .ok (.iconst 1, 1) := by decide +kernel
theorem dL_share_13 : decode cL_share 13 = .ok (.ireturn, 1) := by decide +kernel
theorem dL_share_14 : decode cL_share 14 = .ok (.iconst 0, 1) := by decide +kernel
theorem dL_share_15 : decode cL_share 15 = .ok (.ireturn, 1) := by decide +kernel
set_option maxRecDepth 20000 in
theorem ggL_law_X1_init : GoodIn wsL_law wsX1_init := goodIn_r _ [10, 11, 12, 13, 14, 15, 16, 17, 18, 19, 20, 464, 465, 466, 467, 468] (by decide +kernel) (by decide +kernel)
set_option maxRecDepth 20000 in
theorem gL_law_X1_init : GoodIn wsL_law (wsX1_init) := ggL_law_X1_init
set_option maxRecDepth 20000 in
theorem ggL_law_X2_init : GoodIn wsL_law wsX2_init := goodIn_r _ [23, 24, 12, 13, 14, 25, 26, 27, 28, 29, 30, 31, 32, 33, 34, 35, 36, 37, 38, 39, 469, 470, 471, 472, 473, 474, 475, 476, 477, 478, 479, 480, 481, 482, 483, 484, 485] (by decide +kernel) (by decide +kernel)
set_option maxRecDepth 20000 in
theorem gL_law_X2_init : GoodIn wsL_law (wsX2_init) := ggL_law_X2_init
set_option maxRecDepth 20000 in
theorem ggL_law_L_setArea : GoodIn wsL_law wsL_setArea := goodIn_ca (goodIn_ca (goodIn_r _ [43, 44, 45, 46, 47, 48, 2, 49, 15, 50, 51, 52, 53, 54, 55, 56, 57, 58, 59, 464, 465, 466, 467, 468] (by decide +kernel) (by decide +kernel)) (goodIn_sub (fun _ h => List.mem_append_left _ (List.mem_append_left _ (List.mem_append_right _ h))) (by decide +kernel))) (goodIn_sub (fun _ h => List.mem_append_left _ (List.mem_append_right _ h)) (by decide +kernel))
set_option maxRecDepth 20000 in
theorem gL_law_L_setArea : GoodIn wsL_law (va_wsS RL 92 yL_setArea wsL_setArea) := goodIn_app (goodIn_of _ (by decide +kernel)) ggL_law_L_setArea
set_option maxRecDepth 20000 in
theorem ggL_law_X2_setArea : GoodIn wsL_law wsX2_setArea := goodIn_r _ [63, 25, 64, 65, 5, 66, 67, 68, 69, 70, 71, 469, 470, 471, 472, 473, 474, 475, 476, 477, 478, 479, 480, 481, 482, 483, 484, 485] (by decide +kernel) (by decide +kernel)
set_option maxRecDepth 20000 in
theorem gL_law_X2_setArea : GoodIn wsL_law (wsV RL 97 RX2 yX2_setArea wsX2_setArea) := goodIn_app (goodIn_of _ (by decide +kernel)) ggL_law_X2_setArea
set_option maxRecDepth 20000 in
theorem ggL_law_X2_thrown : GoodIn wsL_law wsX2_thrown := goodIn_r _ [75, 71, 469, 470, 471, 472, 473, 474, 475, 476, 477, 478, 479, 480, 481, 482, 483, 484, 485] (by decide +kernel) (by decide +kernel)
set_option maxRecDepth 20000 in
theorem gL_law_X2_thrown : GoodIn wsL_law (wsV RL 98 RX2 yX2_thrown wsX2_thrown) := goodIn_app (goodIn_of _ (by decide +kernel)) ggL_law_X2_thrown
set_option maxRecDepth 20000 in
theorem ggL_law_L_setIndex : GoodIn wsL_law wsL_setIndex := goodIn_ca (goodIn_ca (goodIn_r _ [78, 44, 45, 79, 80, 81, 2, 82, 16, 50, 51, 52, 53, 54, 55, 56, 57, 58, 59, 464, 465, 466, 467, 468] (by decide +kernel) (by decide +kernel)) (goodIn_sub (fun _ h => List.mem_append_left _ (List.mem_append_left _ (List.mem_append_right _ h))) (by decide +kernel))) (goodIn_sub (fun _ h => List.mem_append_left _ (List.mem_append_right _ h)) (by decide +kernel))
set_option maxRecDepth 20000 in
theorem gL_law_L_setIndex : GoodIn wsL_law (va_wsS RL 102 yL_setIndex wsL_setIndex) := goodIn_app (goodIn_of _ (by decide +kernel)) ggL_law_L_setIndex
set_option maxRecDepth 20000 in
theorem ggL_law_X2_setIndex : GoodIn wsL_law wsX2_setIndex := goodIn_r _ [86, 26, 64, 65, 5, 66, 67, 68, 69, 70, 71, 469, 470, 471, 472, 473, 474, 475, 476, 477, 478, 479, 480, 481, 482, 483, 484, 485] (by decide +kernel) (by decide +kernel)
set_option maxRecDepth 20000 in
theorem gL_law_X2_setIndex : GoodIn wsL_law (wsV RL 104 RX2 yX2_setIndex wsX2_setIndex) := goodIn_app (goodIn_of _ (by decide +kernel)) ggL_law_X2_setIndex
set_option maxRecDepth 20000 in
theorem ggL_law_L_setCost : GoodIn wsL_law wsL_setCost := goodIn_ca (goodIn_ca (goodIn_r _ [89, 44, 45, 90, 91, 92, 2, 93, 17, 94, 50, 51, 52, 53, 54, 55, 56, 57, 58, 59, 464, 465, 466, 467, 468] (by decide +kernel) (by decide +kernel)) (goodIn_sub (fun _ h => List.mem_append_left _ (List.mem_append_left _ (List.mem_append_right _ h))) (by decide +kernel))) (goodIn_sub (fun _ h => List.mem_append_left _ (List.mem_append_right _ h)) (by decide +kernel))
set_option maxRecDepth 20000 in
theorem gL_law_L_setCost : GoodIn wsL_law (va_wsS RL 105 yL_setCost wsL_setCost) := goodIn_app (goodIn_of _ (by decide +kernel)) ggL_law_L_setCost
set_option maxRecDepth 20000 in
theorem ggL_law_X2_setCost : GoodIn wsL_law wsX2_setCost := goodIn_r _ [98, 99, 27, 64, 65, 5, 66, 67, 68, 69, 70, 71, 469, 470, 471, 472, 473, 474, 475, 476, 477, 478, 479, 480, 481, 482, 483, 484, 485] (by decide +kernel) (by decide +kernel)
set_option maxRecDepth 20000 in
theorem gL_law_X2_setCost : GoodIn wsL_law (wsV RL 107 RX2 yX2_setCost wsX2_setCost) := goodIn_app (goodIn_of _ (by decide +kernel)) ggL_law_X2_setCost
set_option maxRecDepth 20000 in
theorem ggL_law_L_let : GoodIn wsL_law wsL_let := goodIn_ca (goodIn_ca (goodIn_ca (goodIn_r _ [102, 44, 45, 103, 104, 105, 106, 2, 107, 108, 109, 15, 110, 20, 19, 18, 111, 112, 50, 51, 52, 53, 54, 55, 56, 57, 58, 59, 113, 114, 115, 116, 117, 118, 119, 120, 121, 122, 123, 124, 125, 126, 127, 128, 129, 130, 131, 132, 133, 12, 13, 134, 135, 136, 137, 138, 14, 139, 140, 141, 142, 143, 464, 465, 466, 467, 468, 486, 487, 488, 489, 490, 491, 492, 493, 494, 495, 496, 497] (by decide +kernel) (by decide +kernel)) (goodIn_sub (fun _ h => List.mem_append_right _ h) (by decide +kernel))) (goodIn_sub (fun _ h => List.mem_append_left _ (List.mem_append_left _ (List.mem_append_right _ h))) (by decide +kernel))) (goodIn_sub (fun _ h => List.mem_append_left _ (List.mem_append_right _ h)) (by decide +kernel))
set_option maxRecDepth 20000 in
theorem gL_law_L_let : GoodIn wsL_law (va_wsS RL 108 yL_let wsL_let) := goodIn_app (goodIn_of _ (by decide +kernel)) ggL_law_L_let
set_option maxRecDepth 20000 in
theorem ggL_law_X2_let : GoodIn wsL_law wsX2_let := goodIn_r _ [147, 148, 149, 28, 29, 30, 31, 34, 64, 65, 5, 66, 150, 151, 152, 153, 67, 68, 69, 70, 71, 469, 470, 471, 472, 473, 474, 475, 476, 477, 478, 479, 480, 481, 482, 483, 484, 485] (by decide +kernel) (by decide +kernel)
set_option maxRecDepth 20000 in
theorem gL_law_X2_let : GoodIn wsL_law (wsV RL 111 RX2 yX2_let wsX2_let) := goodIn_app (goodIn_of _ (by decide +kernel)) ggL_law_X2_let
set_option maxRecDepth 20000 in
theorem ggL_law_L_end : GoodIn wsL_law wsL_end := goodIn_ca (goodIn_ca (goodIn_r _ [156, 44, 45, 157, 158, 159, 2, 160, 161, 162, 163, 164, 53, 54, 19, 50, 51, 52, 55, 56, 57, 58, 59, 486, 487, 488, 489, 490, 491, 492, 493, 494, 495, 496, 497, 464, 465, 466, 467, 468] (by decide +kernel) (by decide +kernel)) (goodIn_sub (fun _ h => List.mem_append_left _ (List.mem_append_left _ (List.mem_append_right _ h))) (by decide +kernel))) (goodIn_sub (fun _ h => List.mem_append_left _ (List.mem_append_right _ h)) (by decide +kernel))
set_option maxRecDepth 20000 in
theorem gL_law_L_end : GoodIn wsL_law (va_wsS RL 112 yL_end wsL_end) := goodIn_app (goodIn_of _ (by decide +kernel)) ggL_law_L_end
set_option maxRecDepth 20000 in
theorem ggL_law_X2_end : GoodIn wsL_law wsX2_end := goodIn_r _ [168, 29, 30, 169, 170, 171, 5, 172, 149, 64, 65, 66, 67, 68, 69, 70, 71, 469, 470, 471, 472, 473, 474, 475, 476, 477, 478, 479, 480, 481, 482, 483, 484, 485] (by decide +kernel) (by decide +kernel)
set_option maxRecDepth 20000 in
theorem gL_law_X2_end : GoodIn wsL_law (wsV RL 114 RX2 yX2_end wsX2_end) := goodIn_app (goodIn_of _ (by decide +kernel)) ggL_law_X2_end
set_option maxRecDepth 20000 in
theorem ggL_law_L_step : GoodIn wsL_law wsL_step := goodIn_ca (goodIn_ca (goodIn_ca (goodIn_r _ [175, 44, 45, 103, 176, 177, 178, 2, 179, 108, 109, 110, 161, 162, 163, 164, 53, 54, 19, 50, 51, 52, 55, 56, 57, 58, 59, 180, 181, 182, 112, 183, 141, 139, 140, 127, 128, 124, 129, 486, 487, 488, 489, 490, 491, 492, 493, 494, 495, 496, 497, 464, 465, 466, 467, 468] (by decide +kernel) (by decide +kernel)) (goodIn_sub (fun _ h => List.mem_append_right _ h) (by decide +kernel))) (goodIn_sub (fun _ h => List.mem_append_left _ (List.mem_append_left _ (List.mem_append_right _ h))) (by decide +kernel))) (goodIn_sub (fun _ h => List.mem_append_left _ (List.mem_append_right _ h)) (by decide +kernel))
set_option maxRecDepth 20000 in
theorem gL_law_L_step : GoodIn wsL_law (va_wsS RL 115 yL_step wsL_step) := goodIn_app (goodIn_of _ (by decide +kernel)) ggL_law_L_step
set_option maxRecDepth 20000 in
theorem ggL_law_X2_step : GoodIn wsL_law wsX2_step := goodIn_r _ [187, 29, 30, 148, 38, 39, 37, 169, 170, 171, 5, 172, 149, 64, 65, 66, 188, 189, 190, 191, 67, 68, 69, 70, 71, 469, 470, 471, 472, 473, 474, 475, 476, 477, 478, 479, 480, 481, 482, 483, 484, 485] (by decide +kernel) (by decide +kernel)
set_option maxRecDepth 20000 in
theorem gL_law_X2_step : GoodIn wsL_law (wsV RL 118 RX2 yX2_step wsX2_step) := goodIn_app (goodIn_of _ (by decide +kernel)) ggL_law_X2_step
set_option maxRecDepth 20000 in
theorem ggL_law_L_setTerms : GoodIn wsL_law wsL_setTerms := goodIn_ca (goodIn_ca (goodIn_r _ [194, 44, 45, 195, 196, 197, 2, 198, 161, 162, 163, 164, 53, 54, 19, 50, 51, 52, 55, 56, 57, 58, 59, 486, 487, 488, 489, 490, 491, 492, 493, 494, 495, 496, 497, 464, 465, 466, 467, 468] (by decide +kernel) (by decide +kernel)) (goodIn_sub (fun _ h => List.mem_append_left _ (List.mem_append_left _ (List.mem_append_right _ h))) (by decide +kernel))) (goodIn_sub (fun _ h => List.mem_append_left _ (List.mem_append_right _ h)) (by decide +kernel))
set_option maxRecDepth 20000 in
theorem gL_law_L_setTerms : GoodIn wsL_law (va_wsS RL 119 yL_setTerms wsL_setTerms) := goodIn_app (goodIn_of _ (by decide +kernel)) ggL_law_L_setTerms
set_option maxRecDepth 20000 in
theorem ggL_law_X2_setTerms : GoodIn wsL_law wsX2_setTerms := goodIn_r _ [202, 32, 33, 64, 65, 5, 66, 169, 170, 171, 172, 149, 67, 68, 69, 70, 71, 469, 470, 471, 472, 473, 474, 475, 476, 477, 478, 479, 480, 481, 482, 483, 484, 485] (by decide +kernel) (by decide +kernel)
set_option maxRecDepth 20000 in
theorem gL_law_X2_setTerms : GoodIn wsL_law (wsV RL 122 RX2 yX2_setTerms wsX2_setTerms) := goodIn_app (goodIn_of _ (by decide +kernel)) ggL_law_X2_setTerms
set_option maxRecDepth 20000 in
theorem ggL_law_L_setService : GoodIn wsL_law wsL_setService := goodIn_ca (goodIn_ca (goodIn_r _ [205, 44, 45, 206, 207, 208, 2, 209, 94, 161, 162, 163, 164, 53, 54, 19, 50, 51, 52, 55, 56, 57, 58, 59, 486, 487, 488, 489, 490, 491, 492, 493, 494, 495, 496, 497, 464, 465, 466, 467, 468] (by decide +kernel) (by decide +kernel)) (goodIn_sub (fun _ h => List.mem_append_left _ (List.mem_append_left _ (List.mem_append_right _ h))) (by decide +kernel))) (goodIn_sub (fun _ h => List.mem_append_left _ (List.mem_append_right _ h)) (by decide +kernel))
set_option maxRecDepth 20000 in
theorem gL_law_L_setService : GoodIn wsL_law (va_wsS RL 123 yL_setService wsL_setService) := goodIn_app (goodIn_of _ (by decide +kernel)) ggL_law_L_setService
set_option maxRecDepth 20000 in
theorem ggL_law_X2_setService : GoodIn wsL_law wsX2_setService := goodIn_r _ [213, 99, 34, 35, 64, 65, 5, 66, 169, 170, 171, 172, 149, 67, 68, 69, 70, 71, 469, 470, 471, 472, 473, 474, 475, 476, 477, 478, 479, 480, 481, 482, 483, 484, 485] (by decide +kernel) (by decide +kernel)
set_option maxRecDepth 20000 in
theorem gL_law_X2_setService : GoodIn wsL_law (wsV RL 125 RX2 yX2_setService wsX2_setService) := goodIn_app (goodIn_of _ (by decide +kernel)) ggL_law_X2_setService
set_option maxRecDepth 20000 in
theorem ggL_law_L_topUp : GoodIn wsL_law wsL_topUp := goodIn_ca (goodIn_ca (goodIn_r _ [216, 44, 45, 217, 218, 219, 2, 220, 221, 128, 124, 129, 161, 162, 163, 164, 53, 54, 19, 50, 51, 52, 55, 56, 57, 58, 59, 222, 223, 224, 225, 16, 226, 227, 228, 112, 229, 126, 121, 230, 231, 232, 233, 134, 234, 235, 236, 237, 143, 141, 139, 140, 238, 239, 240, 241, 242, 243, 244, 245, 246, 247, 248, 135, 486, 487, 488, 489, 490, 491, 492, 493, 494, 495, 496, 497, 464, 465, 466, 467, 468] (by decide +kernel) (by decide +kernel)) (goodIn_sub (fun _ h => List.mem_append_left _ (List.mem_append_left _ (List.mem_append_right _ h))) (by decide +kernel))) (goodIn_sub (fun _ h => List.mem_append_left _ (List.mem_append_right _ h)) (by decide +kernel))
set_option maxRecDepth 20000 in
theorem gL_law_L_topUp : GoodIn wsL_law (va_wsS RL 126 yL_topUp wsL_topUp) := goodIn_app (goodIn_of _ (by decide +kernel)) ggL_law_L_topUp
set_option maxRecDepth 20000 in
theorem ggL_law_X2_topUp : GoodIn wsL_law wsX2_topUp := goodIn_r _ [252, 36, 169, 170, 171, 5, 172, 149, 64, 65, 66, 253, 254, 255, 256, 29, 30, 67, 68, 69, 70, 71, 257, 258, 259, 260, 32, 26, 261, 262, 263, 264, 31, 37, 38, 39, 265, 266, 267, 268, 33, 469, 470, 471, 472, 473, 474, 475, 476, 477, 478, 479, 480, 481, 482, 483, 484, 485] (by decide +kernel) (by decide +kernel)
set_option maxRecDepth 20000 in
theorem gL_law_X2_topUp : GoodIn wsL_law (wsV RL 128 RX2 yX2_topUp wsX2_topUp) := goodIn_app (goodIn_of _ (by decide +kernel)) ggL_law_X2_topUp
set_option maxRecDepth 20000 in
theorem ggL_law_L_draw : GoodIn wsL_law wsL_draw := goodIn_ca (goodIn_ca (goodIn_ca (goodIn_r _ [271, 44, 45, 103, 272, 273, 274, 2, 275, 108, 109, 94, 161, 162, 163, 164, 53, 54, 19, 50, 51, 52, 55, 56, 57, 58, 59, 486, 487, 488, 489, 490, 491, 492, 493, 494, 495, 496, 497, 464, 465, 466, 467, 468] (by decide +kernel) (by decide +kernel)) (goodIn_sub (fun _ h => List.mem_append_right _ h) (by decide +kernel))) (goodIn_sub (fun _ h => List.mem_append_left _ (List.mem_append_left _ (List.mem_append_right _ h))) (by decide +kernel))) (goodIn_sub (fun _ h => List.mem_append_left _ (List.mem_append_right _ h)) (by decide +kernel))
set_option maxRecDepth 20000 in
theorem gL_law_L_draw : GoodIn wsL_law (va_wsS RL 129 yL_draw wsL_draw) := goodIn_app (goodIn_of _ (by decide +kernel)) ggL_law_L_draw
set_option maxRecDepth 20000 in
theorem ggL_law_X2_draw : GoodIn wsL_law wsX2_draw := goodIn_r _ [279, 99, 36, 169, 170, 171, 5, 172, 149, 64, 65, 66, 67, 68, 69, 70, 71, 469, 470, 471, 472, 473, 474, 475, 476, 477, 478, 479, 480, 481, 482, 483, 484, 485] (by decide +kernel) (by decide +kernel)
set_option maxRecDepth 20000 in
theorem gL_law_X2_draw : GoodIn wsL_law (wsV RL 131 RX2 yX2_draw wsX2_draw) := goodIn_app (goodIn_of _ (by decide +kernel)) ggL_law_X2_draw
set_option maxRecDepth 20000 in
theorem ggL_law_L_held : GoodIn wsL_law wsL_held := goodIn_ca (goodIn_r _ [282, 44, 283, 284, 285, 2, 286, 161, 162, 163, 164, 53, 54, 19, 50, 51, 52, 486, 487, 488, 489, 490, 491, 492, 493, 494, 495, 496, 497, 464, 465, 466, 467, 468] (by decide +kernel) (by decide +kernel)) (goodIn_sub (fun _ h => List.mem_append_left _ (List.mem_append_left _ (List.mem_append_right _ h))) (by decide +kernel))
set_option maxRecDepth 20000 in
theorem gL_law_L_held : GoodIn wsL_law (va_wsS RL 132 yL_held wsL_held) := goodIn_app (goodIn_of _ (by decide +kernel)) ggL_law_L_held
set_option maxRecDepth 20000 in
theorem ggL_law_X2_held : GoodIn wsL_law wsX2_held := goodIn_r _ [290, 36, 169, 170, 171, 5, 172, 149, 64, 65, 66, 67, 68, 69, 70, 71, 469, 470, 471, 472, 473, 474, 475, 476, 477, 478, 479, 480, 481, 482, 483, 484, 485] (by decide +kernel) (by decide +kernel)
set_option maxRecDepth 20000 in
theorem gL_law_X2_held : GoodIn wsL_law (wsV RL 135 RX2 yX2_held wsX2_held) := goodIn_app (goodIn_of _ (by decide +kernel)) ggL_law_X2_held
set_option maxRecDepth 20000 in
theorem ggL_law_X1_leases : GoodIn wsL_law wsX1_leases := goodIn_r _ [294, 20, 464, 465, 466, 467, 468] (by decide +kernel) (by decide +kernel)
set_option maxRecDepth 20000 in
theorem gL_law_X1_leases : GoodIn wsL_law (wsV RL 136 RX1 yX1_leases wsX1_leases) := goodIn_app (goodIn_of _ (by decide +kernel)) ggL_law_X1_leases
set_option maxRecDepth 20000 in
theorem ggL_law_X2_leases : GoodIn wsL_law wsX2_leases := goodIn_r _ [298, 71, 149, 469, 470, 471, 472, 473, 474, 475, 476, 477, 478, 479, 480, 481, 482, 483, 484, 485] (by decide +kernel) (by decide +kernel)
set_option maxRecDepth 20000 in
theorem gL_law_X2_leases : GoodIn wsL_law (wsV RL 139 RX2 yX2_leases wsX2_leases) := goodIn_app (goodIn_of _ (by decide +kernel)) ggL_law_X2_leases
set_option maxRecDepth 20000 in
theorem ggL_law_L_leaseOn : GoodIn wsL_law wsL_leaseOn := goodIn_ca (goodIn_r _ [301, 44, 302, 303, 304, 2, 305, 15, 19, 50, 51, 52, 53, 54, 226, 227, 228, 112, 229, 126, 121, 464, 465, 466, 467, 468, 486, 487, 488, 489, 490, 491, 492, 493, 494, 495, 496, 497] (by decide +kernel) (by decide +kernel)) (goodIn_sub (fun _ h => List.mem_append_left _ (List.mem_append_left _ (List.mem_append_right _ h))) (by decide +kernel))
set_option maxRecDepth 20000 in
theorem gL_law_L_leaseOn : GoodIn wsL_law (va_wsS RL 140 yL_leaseOn wsL_leaseOn) := goodIn_app (goodIn_of _ (by decide +kernel)) ggL_law_L_leaseOn
set_option maxRecDepth 20000 in
theorem ggL_law_X2_leaseOn : GoodIn wsL_law wsX2_leaseOn := goodIn_r _ [309, 149, 28, 64, 65, 5, 66, 67, 68, 69, 70, 71, 253, 254, 255, 256, 29, 30, 469, 470, 471, 472, 473, 474, 475, 476, 477, 478, 479, 480, 481, 482, 483, 484, 485] (by decide +kernel) (by decide +kernel)
set_option maxRecDepth 20000 in
theorem gL_law_X2_leaseOn : GoodIn wsL_law (wsV RL 142 RX2 yX2_leaseOn wsX2_leaseOn) := goodIn_app (goodIn_of _ (by decide +kernel)) ggL_law_X2_leaseOn
set_option maxRecDepth 20000 in
theorem ggL_law_L_rentOn : GoodIn wsL_law wsL_rentOn := goodIn_ca (goodIn_r _ [312, 44, 313, 314, 315, 2, 316, 161, 162, 163, 164, 53, 54, 19, 50, 51, 52, 222, 223, 224, 225, 16, 221, 128, 124, 129, 226, 227, 228, 112, 229, 126, 121, 230, 231, 232, 233, 134, 234, 235, 236, 237, 143, 141, 139, 140, 238, 239, 240, 241, 242, 243, 244, 245, 246, 247, 248, 135, 464, 465, 466, 467, 468, 486, 487, 488, 489, 490, 491, 492, 493, 494, 495, 496, 497] (by decide +kernel) (by decide +kernel)) (goodIn_sub (fun _ h => List.mem_append_left _ (List.mem_append_left _ (List.mem_append_right _ h))) (by decide +kernel))
set_option maxRecDepth 20000 in
theorem gL_law_L_rentOn : GoodIn wsL_law (va_wsS RL 143 yL_rentOn wsL_rentOn) := goodIn_app (goodIn_of _ (by decide +kernel)) ggL_law_L_rentOn
set_option maxRecDepth 20000 in
theorem ggL_law_X2_rentOn : GoodIn wsL_law wsX2_rentOn := goodIn_r _ [320, 169, 170, 171, 5, 172, 149, 64, 65, 66, 67, 68, 69, 70, 71, 257, 258, 259, 260, 29, 32, 26, 253, 254, 255, 256, 30, 261, 262, 263, 264, 31, 37, 38, 39, 265, 266, 267, 268, 33, 469, 470, 471, 472, 473, 474, 475, 476, 477, 478, 479, 480, 481, 482, 483, 484, 485] (by decide +kernel) (by decide +kernel)
set_option maxRecDepth 20000 in
theorem gL_law_X2_rentOn : GoodIn wsL_law (wsV RL 145 RX2 yX2_rentOn wsX2_rentOn) := goodIn_app (goodIn_of _ (by decide +kernel)) ggL_law_X2_rentOn
set_option maxRecDepth 20000 in
theorem ggL_law_L_bill : GoodIn wsL_law wsL_bill := goodIn_ca (goodIn_r _ [323, 44, 324, 325, 326, 2, 327, 161, 162, 163, 164, 53, 54, 19, 50, 51, 52, 328, 329, 330, 331, 332, 123, 124, 125, 333, 334, 335, 112, 336, 126, 134, 121, 141, 139, 135, 337, 338, 339, 340, 246, 247, 248, 222, 223, 224, 225, 16, 221, 128, 129, 226, 227, 228, 229, 230, 231, 232, 233, 234, 235, 236, 237, 143, 140, 238, 239, 240, 241, 242, 243, 244, 245, 464, 465, 466, 467, 468, 486, 487, 488, 489, 490, 491, 492, 493, 494, 495, 496, 497] (by decide +kernel) (by decide +kernel)) (goodIn_sub (fun _ h => List.mem_append_left _ (List.mem_append_left _ (List.mem_append_right _ h))) (by decide +kernel))
set_option maxRecDepth 20000 in
theorem gL_law_L_bill : GoodIn wsL_law (va_wsS RL 146 yL_bill wsL_bill) := goodIn_app (goodIn_of _ (by decide +kernel)) ggL_law_L_bill
set_option maxRecDepth 20000 in
theorem ggL_law_X2_bill : GoodIn wsL_law wsX2_bill := goodIn_r _ [344, 169, 170, 171, 5, 172, 149, 64, 65, 66, 67, 68, 69, 70, 71, 345, 346, 347, 348, 257, 258, 259, 260, 29, 32, 26, 253, 254, 255, 256, 30, 261, 262, 263, 264, 31, 37, 38, 39, 265, 266, 267, 268, 33, 469, 470, 471, 472, 473, 474, 475, 476, 477, 478, 479, 480, 481, 482, 483, 484, 485] (by decide +kernel) (by decide +kernel)
set_option maxRecDepth 20000 in
theorem gL_law_X2_bill : GoodIn wsL_law (wsV RL 148 RX2 yX2_bill wsX2_bill) := goodIn_app (goodIn_of _ (by decide +kernel)) ggL_law_X2_bill
set_option maxRecDepth 20000 in
theorem ggL_law_L_billByDays : GoodIn wsL_law wsL_billByDays := goodIn_ca (goodIn_r _ [351, 44, 352, 353, 354, 2, 355, 161, 162, 163, 164, 53, 54, 19, 50, 51, 52, 222, 223, 224, 225, 16, 221, 128, 124, 129, 226, 227, 228, 112, 229, 126, 121, 230, 231, 232, 233, 134, 234, 235, 236, 237, 143, 141, 139, 140, 238, 239, 240, 241, 242, 243, 244, 245, 246, 247, 248, 135, 464, 465, 466, 467, 468, 486, 487, 488, 489, 490, 491, 492, 493, 494, 495, 496, 497] (by decide +kernel) (by decide +kernel)) (goodIn_sub (fun _ h => List.mem_append_left _ (List.mem_append_left _ (List.mem_append_right _ h))) (by decide +kernel))
set_option maxRecDepth 20000 in
theorem gL_law_L_billByDays : GoodIn wsL_law (va_wsS RL 149 yL_billByDays wsL_billByDays) := goodIn_app (goodIn_of _ (by decide +kernel)) ggL_law_L_billByDays
set_option maxRecDepth 20000 in
theorem ggL_law_X2_billByDays : GoodIn wsL_law wsX2_billByDays := goodIn_r _ [359, 169, 170, 171, 5, 172, 149, 64, 65, 66, 67, 68, 69, 70, 71, 345, 346, 347, 348, 257, 258, 259, 260, 29, 32, 26, 253, 254, 255, 256, 30, 261, 262, 263, 264, 31, 37, 38, 39, 265, 266, 267, 268, 33, 469, 470, 471, 472, 473, 474, 475, 476, 477, 478, 479, 480, 481, 482, 483, 484, 485] (by decide +kernel) (by decide +kernel)
set_option maxRecDepth 20000 in
theorem gL_law_X2_billByDays : GoodIn wsL_law (wsV RL 151 RX2 yX2_billByDays wsX2_billByDays) := goodIn_app (goodIn_of _ (by decide +kernel)) ggL_law_X2_billByDays
set_option maxRecDepth 20000 in
theorem ggL_law_L_bills : GoodIn wsL_law wsL_bills := goodIn_ca (goodIn_ca (goodIn_r _ [362, 44, 45, 363, 364, 365, 2, 366, 161, 162, 163, 164, 53, 54, 19, 50, 51, 52, 55, 56, 57, 58, 59, 328, 329, 330, 331, 332, 123, 124, 125, 333, 334, 335, 112, 336, 126, 134, 121, 141, 139, 135, 337, 338, 339, 340, 246, 247, 248, 222, 223, 224, 225, 16, 221, 128, 129, 226, 227, 228, 229, 230, 231, 232, 233, 234, 235, 236, 237, 143, 140, 238, 239, 240, 241, 242, 243, 244, 245, 464, 465, 466, 467, 468, 486, 487, 488, 489, 490, 491, 492, 493, 494, 495, 496, 497] (by decide +kernel) (by decide +kernel)) (goodIn_sub (fun _ h => List.mem_append_left _ (List.mem_append_left _ (List.mem_append_right _ h))) (by decide +kernel))) (goodIn_sub (fun _ h => List.mem_append_left _ (List.mem_append_right _ h)) (by decide +kernel))
set_option maxRecDepth 20000 in
theorem gL_law_L_bills : GoodIn wsL_law (va_wsS RL 152 yL_bills wsL_bills) := goodIn_app (goodIn_of _ (by decide +kernel)) ggL_law_L_bills
set_option maxRecDepth 20000 in
theorem ggL_law_X2_bills : GoodIn wsL_law wsX2_bills := goodIn_r _ [370, 169, 170, 171, 5, 172, 149, 64, 65, 66, 67, 68, 69, 70, 71, 345, 346, 347, 348, 257, 258, 259, 260, 29, 32, 26, 253, 254, 255, 256, 30, 261, 262, 263, 264, 31, 37, 38, 39, 265, 266, 267, 268, 33, 469, 470, 471, 472, 473, 474, 475, 476, 477, 478, 479, 480, 481, 482, 483, 484, 485] (by decide +kernel) (by decide +kernel)
set_option maxRecDepth 20000 in
theorem gL_law_X2_bills : GoodIn wsL_law (wsV RL 154 RX2 yX2_bills wsX2_bills) := goodIn_app (goodIn_of _ (by decide +kernel)) ggL_law_X2_bills
set_option maxRecDepth 20000 in
theorem ggL_law_L_nextChange : GoodIn wsL_law wsL_nextChange := goodIn_ca (goodIn_r _ [373, 44, 374, 375, 376, 2, 377, 161, 162, 163, 164, 53, 54, 19, 50, 51, 52, 333, 334, 335, 112, 336, 126, 134, 121, 141, 139, 135, 337, 338, 339, 340, 246, 247, 248, 222, 223, 224, 225, 16, 221, 128, 124, 129, 226, 227, 228, 229, 230, 231, 232, 233, 234, 235, 236, 237, 143, 140, 238, 239, 240, 241, 242, 243, 244, 245, 464, 465, 466, 467, 468, 486, 487, 488, 489, 490, 491, 492, 493, 494, 495, 496, 497] (by decide +kernel) (by decide +kernel)) (goodIn_sub (fun _ h => List.mem_append_left _ (List.mem_append_left _ (List.mem_append_right _ h))) (by decide +kernel))
set_option maxRecDepth 20000 in
theorem gL_law_L_nextChange : GoodIn wsL_law (va_wsS RL 155 yL_nextChange wsL_nextChange) := goodIn_app (goodIn_of _ (by decide +kernel)) ggL_law_L_nextChange
set_option maxRecDepth 20000 in
theorem ggL_law_X2_nextChange : GoodIn wsL_law wsX2_nextChange := goodIn_r _ [381, 30, 169, 170, 171, 5, 172, 149, 64, 65, 66, 67, 68, 69, 70, 71, 257, 258, 259, 260, 29, 32, 26, 253, 254, 255, 256, 261, 262, 263, 264, 31, 37, 38, 39, 265, 266, 267, 268, 33, 469, 470, 471, 472, 473, 474, 475, 476, 477, 478, 479, 480, 481, 482, 483, 484, 485] (by decide +kernel) (by decide +kernel)
set_option maxRecDepth 20000 in
theorem gL_law_X2_nextChange : GoodIn wsL_law (wsV RL 157 RX2 yX2_nextChange wsX2_nextChange) := goodIn_app (goodIn_of _ (by decide +kernel)) ggL_law_X2_nextChange
set_option maxRecDepth 20000 in
theorem ggL_law_L_voids : GoodIn wsL_law wsL_voids := goodIn_ca (goodIn_r _ [384, 44, 385, 386, 387, 2, 388, 15, 50, 51, 52, 53, 54, 113, 114, 115, 116, 19, 117, 118, 119, 112, 120, 121, 122, 123, 124, 125, 126, 127, 128, 129, 464, 465, 466, 467, 468, 486, 487, 488, 489, 490, 491, 492, 493, 494, 495, 496, 497] (by decide +kernel) (by decide +kernel)) (goodIn_sub (fun _ h => List.mem_append_left _ (List.mem_append_left _ (List.mem_append_right _ h))) (by decide +kernel))
set_option maxRecDepth 20000 in
theorem gL_law_L_voids : GoodIn wsL_law (va_wsS RL 158 yL_voids wsL_voids) := goodIn_app (goodIn_of _ (by decide +kernel)) ggL_law_L_voids
set_option maxRecDepth 20000 in
theorem ggL_law_X2_voids : GoodIn wsL_law wsX2_voids := goodIn_r _ [392, 149, 28, 64, 65, 5, 66, 67, 68, 69, 70, 71, 393, 394, 395, 396, 29, 30, 469, 470, 471, 472, 473, 474, 475, 476, 477, 478, 479, 480, 481, 482, 483, 484, 485] (by decide +kernel) (by decide +kernel)
set_option maxRecDepth 20000 in
theorem gL_law_X2_voids : GoodIn wsL_law (wsV RL 160 RX2 yX2_voids wsX2_voids) := goodIn_app (goodIn_of _ (by decide +kernel)) ggL_law_X2_voids
set_option maxRecDepth 20000 in
theorem ggL_law_L_part : GoodIn wsL_law wsL_part := goodIn_ca (goodIn_r _ [399, 44, 400, 401, 402, 2, 403, 17, 161, 162, 163, 164, 53, 54, 19, 50, 51, 52, 404, 405, 406, 407, 15, 408, 332, 123, 124, 125, 409, 410, 411, 412, 413, 414, 415, 112, 416, 417, 118, 119, 120, 121, 122, 126, 127, 128, 129, 238, 239, 240, 464, 465, 466, 467, 468, 486, 487, 488, 489, 490, 491, 492, 493, 494, 495, 496, 497] (by decide +kernel) (by decide +kernel)) (goodIn_sub (fun _ h => List.mem_append_left _ (List.mem_append_left _ (List.mem_append_right _ h))) (by decide +kernel))
set_option maxRecDepth 20000 in
theorem gL_law_L_part : GoodIn wsL_law (va_wsS RL 161 yL_part wsL_part) := goodIn_app (goodIn_of _ (by decide +kernel)) ggL_law_L_part
set_option maxRecDepth 20000 in
theorem ggL_law_X2_part : GoodIn wsL_law wsX2_part := goodIn_r _ [421, 169, 170, 171, 5, 172, 149, 64, 65, 66, 67, 68, 69, 70, 71, 422, 423, 424, 425, 27, 25, 28, 426, 34, 427, 428, 429, 430, 393, 394, 395, 396, 29, 30, 469, 470, 471, 472, 473, 474, 475, 476, 477, 478, 479, 480, 481, 482, 483, 484, 485] (by decide +kernel) (by decide +kernel)
set_option maxRecDepth 20000 in
theorem gL_law_X2_part : GoodIn wsL_law (wsV RL 163 RX2 yX2_part wsX2_part) := goodIn_app (goodIn_of _ (by decide +kernel)) ggL_law_X2_part
set_option maxRecDepth 20000 in
theorem ggL_law_L_owners : GoodIn wsL_law wsL_owners := goodIn_ca (goodIn_r _ [433, 44, 434, 435, 436, 2, 437, 17, 19, 50, 51, 52, 53, 54, 404, 405, 406, 407, 15, 408, 332, 123, 124, 125, 409, 410, 411, 412, 413, 414, 415, 112, 416, 417, 118, 119, 120, 121, 122, 126, 127, 128, 129, 238, 239, 240, 464, 465, 466, 467, 468, 486, 487, 488, 489, 490, 491, 492, 493, 494, 495, 496, 497] (by decide +kernel) (by decide +kernel)) (goodIn_sub (fun _ h => List.mem_append_left _ (List.mem_append_left _ (List.mem_append_right _ h))) (by decide +kernel))
set_option maxRecDepth 20000 in
theorem gL_law_L_owners : GoodIn wsL_law (va_wsS RL 164 yL_owners wsL_owners) := goodIn_app (goodIn_of _ (by decide +kernel)) ggL_law_L_owners
set_option maxRecDepth 20000 in
theorem ggL_law_X2_owners : GoodIn wsL_law wsX2_owners := goodIn_r _ [441, 27, 149, 64, 65, 5, 66, 67, 68, 69, 70, 71, 422, 423, 424, 425, 25, 28, 426, 34, 427, 428, 429, 430, 393, 394, 395, 396, 29, 30, 469, 470, 471, 472, 473, 474, 475, 476, 477, 478, 479, 480, 481, 482, 483, 484, 485] (by decide +kernel) (by decide +kernel)
set_option maxRecDepth 20000 in
theorem gL_law_X2_owners : GoodIn wsL_law (wsV RL 166 RX2 yX2_owners wsX2_owners) := goodIn_app (goodIn_of _ (by decide +kernel)) ggL_law_X2_owners
set_option maxRecDepth 20000 in
theorem ggL_law_L_balance : GoodIn wsL_law wsL_balance := goodIn_ca (goodIn_r _ [444, 44, 445, 446, 447, 2, 448, 17, 161, 162, 163, 164, 53, 54, 19, 50, 51, 52, 413, 414, 415, 112, 416, 417, 118, 119, 120, 121, 122, 123, 124, 125, 126, 127, 128, 129, 404, 405, 406, 407, 15, 408, 332, 409, 410, 411, 412, 238, 239, 240, 464, 465, 466, 467, 468, 486, 487, 488, 489, 490, 491, 492, 493, 494, 495, 496, 497] (by decide +kernel) (by decide +kernel)) (goodIn_sub (fun _ h => List.mem_append_left _ (List.mem_append_left _ (List.mem_append_right _ h))) (by decide +kernel))
set_option maxRecDepth 20000 in
theorem gL_law_L_balance : GoodIn wsL_law (va_wsS RL 167 yL_balance wsL_balance) := goodIn_app (goodIn_of _ (by decide +kernel)) ggL_law_L_balance
set_option maxRecDepth 20000 in
theorem ggL_law_X2_balance : GoodIn wsL_law wsX2_balance := goodIn_r _ [452, 35, 169, 170, 171, 5, 172, 149, 64, 65, 66, 67, 68, 69, 70, 71, 422, 423, 424, 425, 27, 25, 28, 426, 34, 427, 428, 429, 430, 393, 394, 395, 396, 29, 30, 469, 470, 471, 472, 473, 474, 475, 476, 477, 478, 479, 480, 481, 482, 483, 484, 485] (by decide +kernel) (by decide +kernel)
set_option maxRecDepth 20000 in
theorem gL_law_X2_balance : GoodIn wsL_law (wsV RL 169 RX2 yX2_balance wsX2_balance) := goodIn_app (goodIn_of _ (by decide +kernel)) ggL_law_X2_balance
set_option maxRecDepth 20000 in
theorem ggL_law_L_share : GoodIn wsL_law wsL_share := goodIn_ca (goodIn_r _ [455, 44, 456, 457, 458, 2, 459, 15, 50, 51, 52, 53, 54, 409, 410, 411, 412, 464, 465, 466, 467, 468] (by decide +kernel) (by decide +kernel)) (goodIn_sub (fun _ h => List.mem_append_left _ (List.mem_append_left _ (List.mem_append_right _ h))) (by decide +kernel))
set_option maxRecDepth 20000 in
theorem gL_law_L_share : GoodIn wsL_law (va_wsS RL 170 yL_share wsL_share) := goodIn_app (goodIn_of _ (by decide +kernel)) ggL_law_L_share
set_option maxRecDepth 20000 in
theorem ggL_law_X2_share : GoodIn wsL_law wsX2_share := goodIn_r _ [463, 25, 64, 65, 5, 66, 67, 68, 69, 70, 71, 427, 428, 429, 430, 469, 470, 471, 472, 473, 474, 475, 476, 477, 478, 479, 480, 481, 482, 483, 484, 485] (by decide +kernel) (by decide +kernel)
set_option maxRecDepth 20000 in
theorem gL_law_X2_share : GoodIn wsL_law (wsV RL 173 RX2 yX2_share wsX2_share) := goodIn_app (goodIn_of _ (by decide +kernel)) ggL_law_X2_share
