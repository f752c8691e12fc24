theorem dJ9_max_7cf53_0 : decode cJ9_max_7cf53 0 = .ok (.iload_n 0, 1) := by decide +kernel
theorem dJ9_max_7cf53_1 : decode cJ9_max_7cf53 1 = .ok (.iload_n 1, 1) := by decide +kernel
theorem dJ9_max_7cf53_2 : decode cJ9_max_7cf53 2 = .ok (.if_icmp .lt 7, 3) := by decide +kernel
theorem dJ9_max_7cf53_5 : decode cJ9_max_7cf53 5 = .ok (.iload_n 0, 1) := by decide +kernel
theorem dJ9_max_7cf53_6 : decode cJ9_max_7cf53 6 = .ok (.goto 4, 3) := by decide +kernel
theorem dJ9_max_7cf53_9 : decode cJ9_max_7cf53 9 = .ok (.iload_n 1, 1) := by decide +kernel
theorem dJ9_max_7cf53_10 : decode cJ9_max_7cf53 10 = .ok (.ireturn, 1) := by decide +kernel
theorem dJ9_min_7cf53_0 : decode cJ9_min_7cf53 0 = .ok (.iload_n 0, 1) := by decide +kernel
theorem dJ9_min_7cf53_1 : decode cJ9_min_7cf53 1 = .ok (.iload_n 1, 1) := by decide +kernel
theorem dJ9_min_7cf53_2 : decode cJ9_min_7cf53 2 = .ok (.if_icmp .gt 7, 3) := by decide +kernel
theorem dJ9_min_7cf53_5 : decode cJ9_min_7cf53 5 = .ok (.iload_n 0, 1) := by decide +kernel
theorem dJ9_min_7cf53_6 : decode cJ9_min_7cf53 6 = .ok (.goto 4, 3) := by decide +kernel
theorem dJ9_min_7cf53_9 : decode cJ9_min_7cf53 9 = .ok (.iload_n 1, 1) := by decide +kernel
theorem dJ9_min_7cf53_10 : decode cJ9_min_7cf53 10 = .ok (.ireturn, 1) := by decide +kernel
theorem dL_draw_0 : decode cL_draw 0 = .ok (.iload_n 1, 1) := by decide +kernel
theorem dL_draw_1 : decode cL_draw 1 = .ok (.aload_n 0, 1) := by decide +kernel
theorem dL_draw_2 : decode cL_draw 2 = .ok (.arraylength, 1) := by decide +kernel
theorem dL_draw_3 : decode cL_draw 3 = .ok (.if_icmp .ge 12, 3) := by decide +kernel
theorem dL_draw_6 : decode cL_draw 6 = .ok (.aload_n 0, 1) := by decide +kernel
theorem dL_draw_7 : decode cL_draw 7 = .ok (.iload_n 1, 1) := by decide +kernel
theorem dL_draw_8 : decode cL_draw 8 = .ok (.iaload, 1) := by decide +kernel
theorem dL_draw_9 : decode cL_draw 9 = .ok (.ldc 7, 2) := by decide +kernel
theorem dL_draw_11 : decode cL_draw 11 = .ok (.iand, 1) := by decide +kernel
theorem dL_draw_12 : decode cL_draw 12 = .ok (.goto 12, 3) := by decide +kernel
theorem dL_draw_15 : decode cL_draw 15 = .ok (.ldc 8, 2) := by decide +kernel
theorem dL_draw_17 : decode cL_draw 17 = .ok (.iload_n 1, 1) := by decide +kernel
theorem dL_draw_18 : decode cL_draw 18 = .ok (.iconst 2, 1) := by decide +kernel
theorem dL_draw_19 : decode cL_draw 19 = .ok (.iadd, 1) := by decide +kernel
theorem dL_draw_20 : decode cL_draw 20 = .ok (.imul, 1) := by decide +kernel
theorem dL_draw_21 : decode cL_draw 21 = .ok (.ldc 9, 2) := by decide +kernel
theorem dL_draw_23 : decode cL_draw 23 = .ok (.irem, 1) := by decide +kernel
theorem dL_draw_24 : decode cL_draw 24 = .ok (.ireturn, 1) := by decide +kernel
set_option maxRecDepth 20000 in
theorem ggL_step_X1_setArea : GoodIn wsL_step wsX1_setArea := goodIn_ca (goodIn_ca (goodIn_r _ [7, 8, 9, 10, 6, 11, 12, 13, 14, 15, 16, 17, 18, 159, 160, 161, 162, 163] (by decide +kernel) (by decide +kernel)) (goodIn_sub (fun _ h => List.mem_cons_of_mem _ (List.mem_append_left _ (List.mem_append_left _ (List.mem_append_right _ h)))) (by decide +kernel))) (goodIn_sub (fun _ h => List.mem_cons_of_mem _ (List.mem_append_left _ (List.mem_append_right _ h))) (by decide +kernel))
set_option maxRecDepth 20000 in
theorem gL_step_X1_setArea : GoodIn wsL_step (wsV RL 10 RX1 yX1_setArea wsX1_setArea) := goodIn_app (goodIn_of _ (by decide +kernel)) ggL_step_X1_setArea
set_option maxRecDepth 20000 in
theorem ggL_step_X1_setIndex : GoodIn wsL_step wsX1_setIndex := goodIn_ca (goodIn_ca (goodIn_r _ [22, 23, 9, 10, 6, 11, 12, 13, 14, 15, 16, 17, 18, 159, 160, 161, 162, 163] (by decide +kernel) (by decide +kernel)) (goodIn_sub (fun _ h => List.mem_cons_of_mem _ (List.mem_append_left _ (List.mem_append_left _ (List.mem_append_right _ h)))) (by decide +kernel))) (goodIn_sub (fun _ h => List.mem_cons_of_mem _ (List.mem_append_left _ (List.mem_append_right _ h))) (by decide +kernel))
set_option maxRecDepth 20000 in
theorem gL_step_X1_setIndex : GoodIn wsL_step (wsV RL 16 RX1 yX1_setIndex wsX1_setIndex) := goodIn_app (goodIn_of _ (by decide +kernel)) ggL_step_X1_setIndex
set_option maxRecDepth 20000 in
theorem ggL_step_X1_setCost : GoodIn wsL_step wsX1_setCost := goodIn_ca (goodIn_ca (goodIn_r _ [27, 28, 29, 9, 10, 6, 11, 12, 13, 14, 15, 16, 17, 18, 159, 160, 161, 162, 163] (by decide +kernel) (by decide +kernel)) (goodIn_sub (fun _ h => List.mem_cons_of_mem _ (List.mem_append_left _ (List.mem_append_left _ (List.mem_append_right _ h)))) (by decide +kernel))) (goodIn_sub (fun _ h => List.mem_cons_of_mem _ (List.mem_append_left _ (List.mem_append_right _ h))) (by decide +kernel))
set_option maxRecDepth 20000 in
theorem gL_step_X1_setCost : GoodIn wsL_step (wsV RL 20 RX1 yX1_setCost wsX1_setCost) := goodIn_app (goodIn_of _ (by decide +kernel)) ggL_step_X1_setCost
set_option maxRecDepth 20000 in
theorem ggL_step_L_lets : GoodIn wsL_step wsL_lets := goodIn_ca (goodIn_ca (goodIn_ca (goodIn_r _ [33, 34, 35, 36, 6, 37, 38, 39, 40, 41, 42, 43, 44, 8, 45, 46, 47, 48, 49, 9, 10, 11, 12, 13, 14, 15, 16, 17, 18, 50, 51, 52, 53, 54, 55, 56, 57, 58, 59, 60, 61, 62, 63, 64, 65, 66, 67, 68, 69, 70, 71, 72, 73, 74, 75, 76, 77, 78, 79, 80, 81, 82, 83, 84, 85, 86, 87, 88, 89, 90, 91, 92, 93, 94, 95, 96, 97, 98, 99, 100, 101, 102, 103, 23, 104, 105, 106, 107, 108, 109, 110, 111, 112, 113, 114, 115, 116, 117, 118, 119, 120, 121, 122, 123, 124, 125, 126, 127, 159, 160, 161, 162, 163, 164, 165, 166, 167, 168, 169, 170, 171, 172, 173, 174, 175] rfl (by decide +kernel)) (goodIn_sub (fun _ h => List.mem_cons_of_mem _ (List.mem_append_right _ h)) (by decide +kernel))) (goodIn_sub (fun _ h => List.mem_cons_of_mem _ (List.mem_append_left _ (List.mem_append_left _ (List.mem_append_right _ h)))) (by decide +kernel))) (goodIn_sub (fun _ h => List.mem_cons_of_mem _ (List.mem_append_left _ (List.mem_append_right _ h))) (by decide +kernel))
set_option maxRecDepth 20000 in
theorem gL_step_L_lets : GoodIn wsL_step (va_wsS RL 24 yL_lets wsL_lets) := goodIn_app (goodIn_of _ (by decide +kernel)) ggL_step_L_lets
set_option maxRecDepth 20000 in
theorem ggL_step_X1_leases : GoodIn wsL_step wsX1_leases := goodIn_r _ [37, 38, 159, 160, 161, 162, 163] (by decide +kernel) (by decide +kernel)
set_option maxRecDepth 20000 in
theorem gL_step_X1_leases : GoodIn wsL_step (wsV RL 30 RX1 yX1_leases wsX1_leases) := goodIn_app (goodIn_of _ (by decide +kernel)) ggL_step_X1_leases
set_option maxRecDepth 20000 in
theorem ggL_step_X1_end : GoodIn wsL_step wsX1_end := goodIn_ca (goodIn_ca (goodIn_r _ [131, 96, 97, 98, 6, 99, 12, 13, 46, 9, 10, 11, 14, 15, 16, 17, 18, 164, 165, 166, 167, 168, 169, 170, 171, 172, 173, 174, 175, 159, 160, 161, 162, 163] (by decide +kernel) (by decide +kernel)) (goodIn_sub (fun _ h => List.mem_cons_of_mem _ (List.mem_append_left _ (List.mem_append_left _ (List.mem_append_right _ h)))) (by decide +kernel))) (goodIn_sub (fun _ h => List.mem_cons_of_mem _ (List.mem_append_left _ (List.mem_append_right _ h))) (by decide +kernel))
set_option maxRecDepth 20000 in
theorem gL_step_X1_end : GoodIn wsL_step (wsV RL 34 RX1 yX1_end wsX1_end) := goodIn_app (goodIn_of _ (by decide +kernel)) ggL_step_X1_end
set_option maxRecDepth 20000 in
theorem ggL_step_X1_rentOn : GoodIn wsL_step wsX1_rentOn := goodIn_ca (goodIn_r _ [95, 96, 97, 98, 6, 99, 12, 13, 46, 9, 10, 11, 100, 101, 102, 103, 23, 104, 65, 61, 66, 88, 89, 90, 49, 91, 63, 58, 105, 106, 107, 108, 73, 109, 110, 111, 112, 83, 81, 79, 80, 113, 114, 115, 116, 117, 118, 119, 120, 121, 122, 123, 74, 159, 160, 161, 162, 163, 164, 165, 166, 167, 168, 169, 170, 171, 172, 173, 174, 175] (by decide +kernel) (by decide +kernel)) (goodIn_sub (fun _ h => List.mem_cons_of_mem _ (List.mem_append_left _ (List.mem_append_left _ (List.mem_append_right _ h)))) (by decide +kernel))
set_option maxRecDepth 20000 in
theorem gL_step_X1_rentOn : GoodIn wsL_step (wsV RL 37 RX1 yX1_rentOn wsX1_rentOn) := goodIn_app (goodIn_of _ (by decide +kernel)) ggL_step_X1_rentOn
set_option maxRecDepth 20000 in
theorem ggL_step_X1_step : GoodIn wsL_step wsX1_step := goodIn_ca (goodIn_ca (goodIn_ca (goodIn_r _ [135, 43, 44, 45, 96, 97, 98, 6, 99, 12, 13, 46, 9, 10, 11, 14, 15, 16, 17, 18, 136, 137, 138, 49, 139, 81, 79, 80, 64, 65, 61, 66, 164, 165, 166, 167, 168, 169, 170, 171, 172, 173, 174, 175, 159, 160, 161, 162, 163] (by decide +kernel) (by decide +kernel)) (goodIn_sub (fun _ h => List.mem_cons_of_mem _ (List.mem_append_right _ h)) (by decide +kernel))) (goodIn_sub (fun _ h => List.mem_cons_of_mem _ (List.mem_append_left _ (List.mem_append_left _ (List.mem_append_right _ h)))) (by decide +kernel))) (goodIn_sub (fun _ h => List.mem_cons_of_mem _ (List.mem_append_left _ (List.mem_append_right _ h))) (by decide +kernel))
set_option maxRecDepth 20000 in
theorem gL_step_X1_step : GoodIn wsL_step (wsV RL 40 RX1 yX1_step wsX1_step) := goodIn_app (goodIn_of _ (by decide +kernel)) ggL_step_X1_step
set_option maxRecDepth 20000 in
theorem ggL_step_X1_setTerms : GoodIn wsL_step wsX1_setTerms := goodIn_ca (goodIn_ca (goodIn_r _ [143, 96, 97, 98, 6, 99, 12, 13, 46, 9, 10, 11, 14, 15, 16, 17, 18, 164, 165, 166, 167, 168, 169, 170, 171, 172, 173, 174, 175, 159, 160, 161, 162, 163] (by decide +kernel) (by decide +kernel)) (goodIn_sub (fun _ h => List.mem_cons_of_mem _ (List.mem_append_left _ (List.mem_append_left _ (List.mem_append_right _ h)))) (by decide +kernel))) (goodIn_sub (fun _ h => List.mem_cons_of_mem _ (List.mem_append_left _ (List.mem_append_right _ h))) (by decide +kernel))
set_option maxRecDepth 20000 in
theorem gL_step_X1_setTerms : GoodIn wsL_step (wsV RL 44 RX1 yX1_setTerms wsX1_setTerms) := goodIn_app (goodIn_of _ (by decide +kernel)) ggL_step_X1_setTerms
set_option maxRecDepth 20000 in
theorem ggL_step_X1_setService : GoodIn wsL_step wsX1_setService := goodIn_ca (goodIn_ca (goodIn_r _ [147, 29, 96, 97, 98, 6, 99, 12, 13, 46, 9, 10, 11, 14, 15, 16, 17, 18, 164, 165, 166, 167, 168, 169, 170, 171, 172, 173, 174, 175, 159, 160, 161, 162, 163] (by decide +kernel) (by decide +kernel)) (goodIn_sub (fun _ h => List.mem_cons_of_mem _ (List.mem_append_left _ (List.mem_append_left _ (List.mem_append_right _ h)))) (by decide +kernel))) (goodIn_sub (fun _ h => List.mem_cons_of_mem _ (List.mem_append_left _ (List.mem_append_right _ h))) (by decide +kernel))
set_option maxRecDepth 20000 in
theorem gL_step_X1_setService : GoodIn wsL_step (wsV RL 48 RX1 yX1_setService wsX1_setService) := goodIn_app (goodIn_of _ (by decide +kernel)) ggL_step_X1_setService
set_option maxRecDepth 20000 in
theorem ggL_step_L_pays : GoodIn wsL_step wsL_pays := goodIn_ca (goodIn_ca (goodIn_ca (goodIn_r _ [150, 124, 125, 126, 6, 127, 96, 97, 98, 99, 12, 13, 46, 9, 10, 11, 151, 152, 153, 154, 43, 44, 29, 14, 15, 16, 17, 18, 92, 93, 94, 95, 100, 101, 102, 103, 23, 104, 65, 61, 66, 88, 89, 90, 49, 91, 63, 58, 105, 106, 107, 108, 73, 109, 110, 111, 112, 83, 81, 79, 80, 113, 114, 115, 116, 117, 118, 119, 120, 121, 122, 123, 74, 155, 156, 157, 158, 164, 165, 166, 167, 168, 169, 170, 171, 172, 173, 174, 175, 159, 160, 161, 162, 163] rfl (by decide +kernel)) (goodIn_sub (fun _ h => List.mem_cons_of_mem _ (List.mem_append_left _ (List.mem_append_left _ (List.mem_append_right _ h)))) (by decide +kernel))) (goodIn_sub (fun _ h => List.mem_cons_of_mem _ (List.mem_append_right _ h)) (by decide +kernel))) (goodIn_sub (fun _ h => List.mem_cons_of_mem _ (List.mem_append_left _ (List.mem_append_right _ h))) (by decide +kernel))
set_option maxRecDepth 20000 in
theorem gL_step_L_pays : GoodIn wsL_step (va_wsS RL 51 yL_pays wsL_pays) := goodIn_app (goodIn_of _ (by decide +kernel)) ggL_step_L_pays
theorem dL_step_0 : decode cL_step 0 = .ok (.aload_n 2, 1) := by decide +kernel
theorem dL_step_1 : decode cL_step 1 = .ok (.iconst 0, 1) := by decide +kernel
theorem dL_step_2 : decode cL_step 2 = .ok (.iaload, 1) := by decide +kernel
theorem dL_step_3 : decode cL_step 3 = .ok (.istore 8, 2) := by decide +kernel
theorem dL_step_5 : decode cL_step 5 = .ok (.iload 8, 2) := by decide +kernel
theorem dL_step_7 : decode cL_step 7 = .ok (.ifCond .ne 7, 3) := by decide +kernel
theorem dL_step_10 : decode cL_step 10 = .ok (.iconst 0, 1) := by decide +kernel
theorem dL_step_11 : decode cL_step 11 = .ok (.goto 8, 3) := by decide +kernel
theorem dL_step_14 : decode cL_step 14 = .ok (.iload 6, 2) := by decide +kernel
theorem dL_step_16 : decode cL_step 16 = .ok (.iload 8, 2) := by decide +kernel
theorem dL_step_18 : decode cL_step 18 = .ok (.irem, 1) := by decide +kernel
theorem dL_step_19 : decode cL_step 19 = .ok (.istore 9, 2) := by decide +kernel
theorem dL_step_21 : decode cL_step 21 = .ok (.iload 5, 2) := by decide +kernel
theorem dL_step_23 : decode cL_step 23 = .ok (.bipush 12, 2) := by decide +kernel
theorem dL_step_25 : decode cL_step 25 = .ok (.irem, 1) := by decide +kernel
theorem dL_step_26 : decode cL_step 26 = .ok (.tableswitch 792 0 9 #[54, 104, 165, 210, 210, 210, 293, 391, 571, 712], 54) := by decide +kernel
theorem dL_step_80 : decode cL_step 80 = .ok (.iload 6, 2) := by decide +kernel
theorem dL_step_82 : decode cL_step 82 = .ok (.bipush 6, 2) := by decide +kernel
theorem dL_step_84 : decode cL_step 84 = .ok (.irem, 1) := by decide +kernel
theorem dL_step_85 : decode cL_step 85 = .ok (.istore 10, 2) := by decide +kernel
theorem dL_step_87 : decode cL_step 87 = .ok (.aload_n 2, 1) := by decide +kernel
theorem dL_step_88 : decode cL_step 88 = .ok (.iconst 1, 1) := by decide +kernel
theorem dL_step_89 : decode cL_step 89 = .ok (.iload 10, 2) := by decide +kernel
theorem dL_step_91 : decode cL_step 91 = .ok (.iadd, 1) := by decide +kernel
theorem dL_step_92 : decode cL_step 92 = .ok (.iaload, 1) := by decide +kernel
theorem dL_step_93 : decode cL_step 93 = .ok (.istore 11, 2) := by decide +kernel
theorem dL_step_95 : decode cL_step 95 = .ok (.aload_n 2, 1) := by decide +kernel
theorem dL_step_96 : decode cL_step 96 = .ok (.iconst 1, 1) := by decide +kernel
theorem dL_step_97 : decode cL_step 97 = .ok (.iload 10, 2) := by decide +kernel
theorem dL_step_99 : decode cL_step 99 = .ok (.iadd, 1) := by decide +kernel
theorem dL_step_100 : decode cL_step 100 = .ok (.iload 7, 2) := by decide +kernel
theorem dL_step_102 : decode cL_step 102 = .ok (.sipush 1000, 3) := by decide +kernel
theorem dL_step_105 : decode cL_step 105 = .ok (.irem, 1) := by decide +kernel
theorem dL_step_106 : decode cL_step 106 = .ok (.iastore, 1) := by decide +kernel
theorem dL_step_107 : decode cL_step 107 = .ok (.aload_n 0, 1) := by decide +kernel
theorem dL_step_108 : decode cL_step 108 = .ok (.iload 10, 2) := by decide +kernel
theorem dL_step_110 : decode cL_step 110 = .ok (.iload 7, 2) := by decide +kernel
theorem dL_step_112 : decode cL_step 112 = .ok (.sipush 1000, 3) := by decide +kernel
theorem dL_step_115 : decode cL_step 115 = .ok (.irem, 1) := by decide +kernel
theorem dL_step_116 : decode cL_step 116 = .ok (.invokevirtual 10, 3) := by decide +kernel
theorem dL_step_119 : decode cL_step 119 = .ok (.iload 11, 2) := by decide +kernel
theorem dL_step_121 : decode cL_step 121 = .ok (.if_icmp .ne 7, 3) := by decide +kernel
theorem dL_step_124 : decode cL_step 124 = .ok (.iconst 1, 1) := by decide +kernel
theorem dL_step_125 : decode cL_step 125 = .ok (.goto 4, 3) := by decide +kernel
theorem dL_step_128 : decode cL_step 128 = .ok (.iconst 0, 1) := by decide +kernel
theorem dL_step_129 : decode cL_step 129 = .ok (.ireturn, 1) := by decide +kernel
theorem dL_step_130 : decode cL_step 130 = .ok (.aload_n 0, 1) := by decide +kernel
theorem dL_step_131 : decode cL_step 131 = .ok (.iload 6, 2) := by decide +kernel
theorem dL_step_133 : decode cL_step 133 = .ok (.sipush 240, 3) := by decide +kernel
theorem dL_step_136 : decode cL_step 136 = .ok (.irem, 1) := by decide +kernel
theorem dL_step_137 : decode cL_step 137 = .ok (.bipush 10, 2) := by decide +kernel
theorem dL_step_139 : decode cL_step 139 = .ok (.iload 7, 2) := by decide +kernel
theorem dL_step_141 : decode cL_step 141 = .ok (.sipush 990, 3) := by decide +kernel
theorem dL_step_144 : decode cL_step 144 = .ok (.irem, 1) := by decide +kernel
theorem dL_step_145 : decode cL_step 145 = .ok (.iadd, 1) := by decide +kernel
theorem dL_step_146 : decode cL_step 146 = .ok (.invokevirtual 16, 3) := by decide +kernel
theorem dL_step_149 : decode cL_step 149 = .ok (.bipush 10, 2) := by decide +kernel
theorem dL_step_151 : decode cL_step 151 = .ok (.if_icmp .lt 38, 3) := by decide +kernel
theorem dL_step_154 : decode cL_step 154 = .ok (.aload_n 0, 1) := by decide +kernel
theorem dL_step_155 : decode cL_step 155 = .ok (.iload 6, 2) := by decide +kernel
theorem dL_step_157 : decode cL_step 157 = .ok (.sipush 240, 3) := by decide +kernel
theorem dL_step_160 : decode cL_step 160 = .ok (.irem, 1) := by decide +kernel
theorem dL_step_161 : decode cL_step 161 = .ok (.bipush 10, 2) := by decide +kernel
theorem dL_step_163 : decode cL_step 163 = .ok (.iload 7, 2) := by decide +kernel
theorem dL_step_165 : decode cL_step 165 = .ok (.sipush 990, 3) := by decide +kernel
theorem dL_step_168 : decode cL_step 168 = .ok (.irem, 1) := by decide +kernel
theorem dL_step_169 : decode cL_step 169 = .ok (.iadd, 1) := by decide +kernel
theorem dL_step_170 : decode cL_step 170 = .ok (.invokevirtual 16, 3) := by decide +kernel
theorem dL_step_173 : decode cL_step 173 = .ok (.bipush 10, 2) := by decide +kernel
theorem dL_step_175 : decode cL_step 175 = .ok (.iload 7, 2) := by decide +kernel
theorem dL_step_177 : decode cL_step 177 = .ok (.sipush 990, 3) := by decide +kernel
theorem dL_step_180 : decode cL_step 180 = .ok (.irem, 1) := by decide +kernel
theorem dL_step_181 : decode cL_step 181 = .ok (.iadd, 1) := by decide +kernel
theorem dL_step_182 : decode cL_step 182 = .ok (.if_icmp .ne 7, 3) := by decide +kernel
theorem dL_step_185 : decode cL_step 185 = .ok (.iconst 1, 1) := by decide +kernel
theorem dL_step_186 : decode cL_step 186 = .ok (.goto 4, 3) := by decide +kernel
theorem dL_step_189 : decode cL_step 189 = .ok (.iconst 0, 1) := by decide +kernel
theorem dL_step_190 : decode cL_step 190 = .ok (.ireturn, 1) := by decide +kernel
theorem dL_step_191 : decode cL_step 191 = .ok (.aload_n 0, 1) := by decide +kernel
theorem dL_step_192 : decode cL_step 192 = .ok (.iload 6, 2) := by decide +kernel
theorem dL_step_194 : decode cL_step 194 = .ok (.bipush 20, 2) := by decide +kernel
theorem dL_step_196 : decode cL_step 196 = .ok (.irem, 1) := by decide +kernel
theorem dL_step_197 : decode cL_step 197 = .ok (.iload 7, 2) := by decide +kernel
theorem dL_step_199 : decode cL_step 199 = .ok (.ldc 19, 2) := by decide +kernel
theorem dL_step_201 : decode cL_step 201 = .ok (.irem, 1) := by decide +kernel
theorem dL_step_202 : decode cL_step 202 = .ok (.invokevirtual 20, 3) := by decide +kernel
theorem dL_step_205 : decode cL_step 205 = .ok (.ifCond .lt 29, 3) := by decide +kernel
theorem dL_step_208 : decode cL_step 208 = .ok (.aload_n 0, 1) := by decide +kernel
theorem dL_step_209 : decode cL_step 209 = .ok (.iload 6, 2) := by decide +kernel
theorem dL_step_211 : decode cL_step 211 = .ok (.bipush 20, 2) := by decide +kernel
theorem dL_step_213 : decode cL_step 213 = .ok (.irem, 1) := by decide +kernel
theorem dL_step_214 : decode cL_step 214 = .ok (.iload 7, 2) := by decide +kernel
theorem dL_step_216 : decode cL_step 216 = .ok (.ldc 19, 2) := by decide +kernel
theorem dL_step_218 : decode cL_step 218 = .ok (.irem, 1) := by decide +kernel
theorem dL_step_219 : decode cL_step 219 = .ok (.invokevirtual 20, 3) := by decide +kernel
theorem dL_step_222 : decode cL_step 222 = .ok (.iload 7, 2) := by decide +kernel
theorem dL_step_224 : decode cL_step 224 = .ok (.ldc 19, 2) := by decide +kernel
theorem dL_step_226 : decode cL_step 226 = .ok (.irem, 1) := by decide +kernel
theorem dL_step_227 : decode cL_step 227 = .ok (.if_icmp .ne 7, 3) := by decide +kernel
theorem dL_step_230 : decode cL_step 230 = .ok (.iconst 1, 1) := by decide +kernel
theorem dL_step_231 : decode cL_step 231 = .ok (.goto 4, 3) := by decide +kernel
theorem dL_step_234 : decode cL_step 234 = .ok (.iconst 0, 1) := by decide +kernel
theorem dL_step_235 : decode cL_step 235 = .ok (.ireturn, 1) := by decide +kernel
theorem dL_step_236 : decode cL_step 236 = .ok (.iload 8, 2) := by decide +kernel
theorem dL_step_238 : decode cL_step 238 = .ok (.bipush 12, 2) := by decide +kernel
theorem dL_step_240 : decode cL_step 240 = .ok (.if_icmp .eq 73, 3) := by decide +kernel
theorem dL_step_243 : decode cL_step 243 = .ok (.aload_n 0, 1) := by decide +kernel
theorem dL_step_244 : decode cL_step 244 = .ok (.aload_n 1, 1) := by decide +kernel
theorem dL_step_245 : decode cL_step 245 = .ok (.aload_n 2, 1) := by decide +kernel
theorem dL_step_246 : decode cL_step 246 = .ok (.aload 4, 2) := by decide +kernel
theorem dL_step_248 : decode cL_step 248 = .ok (.iload 6, 2) := by decide +kernel
theorem dL_step_250 : decode cL_step 250 = .ok (.bipush 6, 2) := by decide +kernel
theorem dL_step_252 : decode cL_step 252 = .ok (.irem, 1) := by decide +kernel
theorem dL_step_253 : decode cL_step 253 = .ok (.iload 6, 2) := by decide +kernel
theorem dL_step_255 : decode cL_step 255 = .ok (.bipush 6, 2) := by decide +kernel
theorem dL_step_257 : decode cL_step 257 = .ok (.idiv, 1) := by decide +kernel
theorem dL_step_258 : decode cL_step 258 = .ok (.sipush 7200, 3) := by decide +kernel
theorem dL_step_261 : decode cL_step 261 = .ok (.irem, 1) := by decide +kernel
theorem dL_step_262 : decode cL_step 262 = .ok (.iconst 1, 1) := by decide +kernel
theorem dL_step_263 : decode cL_step 263 = .ok (.iload 7, 2) := by decide +kernel
theorem dL_step_265 : decode cL_step 265 = .ok (.iload 7, 2) := by decide +kernel
theorem dL_step_267 : decode cL_step 267 = .ok (.iconst 3, 1) := by decide +kernel
theorem dL_step_268 : decode cL_step 268 = .ok (.irem, 1) := by decide +kernel
theorem dL_step_269 : decode cL_step 269 = .ok (.ifCond .ne 9, 3) := by decide +kernel
theorem dL_step_272 : decode cL_step 272 = .ok (.sipush 3000, 3) := by decide +kernel
theorem dL_step_275 : decode cL_step 275 = .ok (.goto 6, 3) := by decide +kernel
theorem dL_step_278 : decode cL_step 278 = .ok (.sipush 500, 3) := by decide +kernel
theorem dL_step_281 : decode cL_step 281 = .ok (.irem, 1) := by decide +kernel
theorem dL_step_282 : decode cL_step 282 = .ok (.iadd, 1) := by decide +kernel
theorem dL_step_283 : decode cL_step 283 = .ok (.iconst 1, 1) := by decide +kernel
theorem dL_step_284 : decode cL_step 284 = .ok (.iload 7, 2) := by decide +kernel
theorem dL_step_286 : decode cL_step 286 = .ok (.sipush 3000, 3) := by decide +kernel
theorem dL_step_289 : decode cL_step 289 = .ok (.idiv, 1) := by decide +kernel
theorem dL_step_290 : decode cL_step 290 = .ok (.iload 6, 2) := by decide +kernel
theorem dL_step_292 : decode cL_step 292 = .ok (.iconst 2, 1) := by decide +kernel
theorem dL_step_293 : decode cL_step 293 = .ok (.irem, 1) := by decide +kernel
theorem dL_step_294 : decode cL_step 294 = .ok (.ifCond .ne 8, 3) := by decide +kernel
theorem dL_step_297 : decode cL_step 297 = .ok (.ldc 23, 2) := by decide +kernel
theorem dL_step_299 : decode cL_step 299 = .ok (.goto 6, 3) := by decide +kernel
theorem dL_step_302 : decode cL_step 302 = .ok (.sipush 900, 3) := by decide +kernel
theorem dL_step_305 : decode cL_step 305 = .ok (.irem, 1) := by decide +kernel
theorem dL_step_306 : decode cL_step 306 = .ok (.iadd, 1) := by decide +kernel
theorem dL_step_307 : decode cL_step 307 = .ok (.invokestatic 24, 3) := by decide +kernel
theorem dL_step_310 : decode cL_step 310 = .ok (.ifCond .eq 7, 3) := by decide +kernel
theorem dL_step_313 : decode cL_step 313 = .ok (.iconst 1, 1) := by decide +kernel
theorem dL_step_314 : decode cL_step 314 = .ok (.goto 4, 3) := by decide +kernel
theorem dL_step_317 : decode cL_step 317 = .ok (.iconst 0, 1) := by decide +kernel
theorem dL_step_318 : decode cL_step 318 = .ok (.ireturn, 1) := by decide +kernel
theorem dL_step_319 : decode cL_step 319 = .ok (.aload_n 1, 1) := by decide +kernel
theorem dL_step_320 : decode cL_step 320 = .ok (.bipush 12, 2) := by decide +kernel
theorem dL_step_322 : decode cL_step 322 = .ok (.iload 9, 2) := by decide +kernel
theorem dL_step_324 : decode cL_step 324 = .ok (.iadd, 1) := by decide +kernel
theorem dL_step_325 : decode cL_step 325 = .ok (.iaload, 1) := by decide +kernel
theorem dL_step_326 : decode cL_step 326 = .ok (.iconst 1, 1) := by decide +kernel
theorem dL_step_327 : decode cL_step 327 = .ok (.iadd, 1) := by decide +kernel
theorem dL_step_328 : decode cL_step 328 = .ok (.iload 7, 2) := by decide +kernel
theorem dL_step_330 : decode cL_step 330 = .ok (.sipush 900, 3) := by decide +kernel
theorem dL_step_333 : decode cL_step 333 = .ok (.irem, 1) := by decide +kernel
theorem dL_step_334 : decode cL_step 334 = .ok (.iadd, 1) := by decide +kernel
theorem dL_step_335 : decode cL_step 335 = .ok (.istore 12, 2) := by decide +kernel
theorem dL_step_337 : decode cL_step 337 = .ok (.iload 8, 2) := by decide +kernel
theorem dL_step_339 : decode cL_step 339 = .ok (.ifCond .eq 15, 3) := by decide +kernel
theorem dL_step_342 : decode cL_step 342 = .ok (.iload 12, 2) := by decide +kernel
theorem dL_step_344 : decode cL_step 344 = .ok (.aload_n 1, 1) := by decide +kernel
theorem dL_step_345 : decode cL_step 345 = .ok (.bipush 24, 2) := by decide +kernel
theorem dL_step_347 : decode cL_step 347 = .ok (.iload 9, 2) := by decide +kernel
theorem dL_step_349 : decode cL_step 349 = .ok (.iadd, 1) := by decide +kernel
theorem dL_step_350 : decode cL_step 350 = .ok (.iaload, 1) := by decide +kernel
theorem dL_step_351 : decode cL_step 351 = .ok (.if_icmp .lt 18, 3) := by decide +kernel
theorem dL_step_354 : decode cL_step 354 = .ok (.aload_n 0, 1) := by decide +kernel
theorem dL_step_355 : decode cL_step 355 = .ok (.invokevirtual 30, 3) := by decide +kernel
theorem dL_step_358 : decode cL_step 358 = .ok (.iload 8, 2) := by decide +kernel
theorem dL_step_360 : decode cL_step 360 = .ok (.if_icmp .ne 7, 3) := by decide +kernel
theorem dL_step_363 : decode cL_step 363 = .ok (.iconst 1, 1) := by decide +kernel
theorem dL_step_364 : decode cL_step 364 = .ok (.goto 4, 3) := by decide +kernel
theorem dL_step_367 : decode cL_step 367 = .ok (.iconst 0, 1) := by decide +kernel
theorem dL_step_368 : decode cL_step 368 = .ok (.ireturn, 1) := by decide +kernel
theorem dL_step_369 : decode cL_step 369 = .ok (.aload_n 1, 1) := by decide +kernel
theorem dL_step_370 : decode cL_step 370 = .ok (.bipush 24, 2) := by decide +kernel
theorem dL_step_372 : decode cL_step 372 = .ok (.iload 9, 2) := by decide +kernel
theorem dL_step_374 : decode cL_step 374 = .ok (.iadd, 1) := by decide +kernel
theorem dL_step_375 : decode cL_step 375 = .ok (.iaload, 1) := by decide +kernel
theorem dL_step_376 : decode cL_step 376 = .ok (.istore 13, 2) := by decide +kernel
theorem dL_step_378 : decode cL_step 378 = .ok (.aload_n 1, 1) := by decide +kernel
theorem dL_step_379 : decode cL_step 379 = .ok (.bipush 24, 2) := by decide +kernel
theorem dL_step_381 : decode cL_step 381 = .ok (.iload 9, 2) := by decide +kernel
theorem dL_step_383 : decode cL_step 383 = .ok (.iadd, 1) := by decide +kernel
theorem dL_step_384 : decode cL_step 384 = .ok (.iload 12, 2) := by decide +kernel
theorem dL_step_386 : decode cL_step 386 = .ok (.iastore, 1) := by decide +kernel
theorem dL_step_387 : decode cL_step 387 = .ok (.aload_n 0, 1) := by decide +kernel
theorem dL_step_388 : decode cL_step 388 = .ok (.iload 9, 2) := by decide +kernel
theorem dL_step_390 : decode cL_step 390 = .ok (.iload 12, 2) := by decide +kernel
theorem dL_step_392 : decode cL_step 392 = .ok (.invokevirtual 34, 3) := by decide +kernel
theorem dL_step_395 : decode cL_step 395 = .ok (.iload 13, 2) := by decide +kernel
theorem dL_step_397 : decode cL_step 397 = .ok (.if_icmp .ne 18, 3) := by decide +kernel
theorem dL_step_400 : decode cL_step 400 = .ok (.aload_n 0, 1) := by decide +kernel
theorem dL_step_401 : decode cL_step 401 = .ok (.iload 9, 2) := by decide +kernel
theorem dL_step_403 : decode cL_step 403 = .ok (.iload 12, 2) := by decide +kernel
theorem dL_step_405 : decode cL_step 405 = .ok (.invokevirtual 37, 3) := by decide +kernel
theorem dL_step_408 : decode cL_step 408 = .ok (.ifCond .ne 7, 3) := by decide +kernel
theorem dL_step_411 : decode cL_step 411 = .ok (.iconst 1, 1) := by decide +kernel
theorem dL_step_412 : decode cL_step 412 = .ok (.goto 4, 3) := by decide +kernel
theorem dL_step_415 : decode cL_step 415 = .ok (.iconst 0, 1) := by decide +kernel
theorem dL_step_416 : decode cL_step 416 = .ok (.ireturn, 1) := by decide +kernel
theorem dL_step_417 : decode cL_step 417 = .ok (.aload_n 1, 1) := by decide +kernel
theorem dL_step_418 : decode cL_step 418 = .ok (.bipush 12, 2) := by decide +kernel
theorem dL_step_420 : decode cL_step 420 = .ok (.iload 9, 2) := by decide +kernel
theorem dL_step_422 : decode cL_step 422 = .ok (.iadd, 1) := by decide +kernel
theorem dL_step_423 : decode cL_step 423 = .ok (.iaload, 1) := by decide +kernel
theorem dL_step_424 : decode cL_step 424 = .ok (.iconst 1, 1) := by decide +kernel
theorem dL_step_425 : decode cL_step 425 = .ok (.iadd, 1) := by decide +kernel
theorem dL_step_426 : decode cL_step 426 = .ok (.iload 7, 2) := by decide +kernel
theorem dL_step_428 : decode cL_step 428 = .ok (.sipush 700, 3) := by decide +kernel
theorem dL_step_431 : decode cL_step 431 = .ok (.irem, 1) := by decide +kernel
theorem dL_step_432 : decode cL_step 432 = .ok (.iadd, 1) := by decide +kernel
theorem dL_step_433 : decode cL_step 433 = .ok (.istore 14, 2) := by decide +kernel
theorem dL_step_435 : decode cL_step 435 = .ok (.iload 8, 2) := by decide +kernel
theorem dL_step_437 : decode cL_step 437 = .ok (.ifCond .eq 28, 3) := by decide +kernel
theorem dL_step_440 : decode cL_step 440 = .ok (.iload 14, 2) := by decide +kernel
theorem dL_step_442 : decode cL_step 442 = .ok (.aload_n 1, 1) := by decide +kernel
theorem dL_step_443 : decode cL_step 443 = .ok (.bipush 24, 2) := by decide +kernel
theorem dL_step_445 : decode cL_step 445 = .ok (.iload 9, 2) := by decide +kernel
theorem dL_step_447 : decode cL_step 447 = .ok (.iadd, 1) := by decide +kernel
theorem dL_step_448 : decode cL_step 448 = .ok (.iaload, 1) := by decide +kernel
theorem dL_step_449 : decode cL_step 449 = .ok (.if_icmp .ge 16, 3) := by decide +kernel
theorem dL_step_452 : decode cL_step 452 = .ok (.aload 4, 2) := by decide +kernel
theorem dL_step_454 : decode cL_step 454 = .ok (.bipush 12, 2) := by decide +kernel
theorem dL_step_456 : decode cL_step 456 = .ok (.iload 9, 2) := by decide +kernel
theorem dL_step_458 : decode cL_step 458 = .ok (.iadd, 1) := by decide +kernel
theorem dL_step_459 : decode cL_step 459 = .ok (.iaload, 1) := by decide +kernel
theorem dL_step_460 : decode cL_step 460 = .ok (.bipush 6, 2) := by decide +kernel
theorem dL_step_462 : decode cL_step 462 = .ok (.if_icmp .ne 18, 3) := by decide +kernel
theorem dL_step_465 : decode cL_step 465 = .ok (.aload_n 0, 1) := by decide +kernel
theorem dL_step_466 : decode cL_step 466 = .ok (.invokevirtual 30, 3) := by decide +kernel
theorem dL_step_469 : decode cL_step 469 = .ok (.iload 8, 2) := by decide +kernel
theorem dL_step_471 : decode cL_step 471 = .ok (.if_icmp .ne 7, 3) := by decide +kernel
theorem dL_step_474 : decode cL_step 474 = .ok (.iconst 1, 1) := by decide +kernel
theorem dL_step_475 : decode cL_step 475 = .ok (.goto 4, 3) := by decide +kernel
theorem dL_step_478 : decode cL_step 478 = .ok (.iconst 0, 1) := by decide +kernel
theorem dL_step_479 : decode cL_step 479 = .ok (.ireturn, 1) := by decide +kernel
theorem dL_step_480 : decode cL_step 480 = .ok (.aload_n 0, 1) := by decide +kernel
theorem dL_step_481 : decode cL_step 481 = .ok (.iload 9, 2) := by decide +kernel
theorem dL_step_483 : decode cL_step 483 = .ok (.iload 14, 2) := by decide +kernel
theorem dL_step_485 : decode cL_step 485 = .ok (.iconst 1, 1) := by decide +kernel
theorem dL_step_486 : decode cL_step 486 = .ok (.iload 7, 2) := by decide +kernel
theorem dL_step_488 : decode cL_step 488 = .ok (.sipush 700, 3) := by decide +kernel
theorem dL_step_491 : decode cL_step 491 = .ok (.idiv, 1) := by decide +kernel
theorem dL_step_492 : decode cL_step 492 = .ok (.ldc 23, 2) := by decide +kernel
theorem dL_step_494 : decode cL_step 494 = .ok (.irem, 1) := by decide +kernel
theorem dL_step_495 : decode cL_step 495 = .ok (.iadd, 1) := by decide +kernel
theorem dL_step_496 : decode cL_step 496 = .ok (.invokevirtual 40, 3) := by decide +kernel
theorem dL_step_499 : decode cL_step 499 = .ok (.istore 15, 2) := by decide +kernel
theorem dL_step_501 : decode cL_step 501 = .ok (.iload 15, 2) := by decide +kernel
theorem dL_step_503 : decode cL_step 503 = .ok (.aload 4, 2) := by decide +kernel
theorem dL_step_505 : decode cL_step 505 = .ok (.bipush 12, 2) := by decide +kernel
theorem dL_step_507 : decode cL_step 507 = .ok (.iload 9, 2) := by decide +kernel
theorem dL_step_509 : decode cL_step 509 = .ok (.iadd, 1) := by decide +kernel
theorem dL_step_510 : decode cL_step 510 = .ok (.iaload, 1) := by decide +kernel
theorem dL_step_511 : decode cL_step 511 = .ok (.if_icmp .eq 18, 3) := by decide +kernel
theorem dL_step_514 : decode cL_step 514 = .ok (.iload 15, 2) := by decide +kernel
theorem dL_step_516 : decode cL_step 516 = .ok (.aload 4, 2) := by decide +kernel
theorem dL_step_518 : decode cL_step 518 = .ok (.bipush 12, 2) := by decide +kernel
theorem dL_step_520 : decode cL_step 520 = .ok (.iload 9, 2) := by decide +kernel
theorem dL_step_522 : decode cL_step 522 = .ok (.iadd, 1) := by decide +kernel
theorem dL_step_523 : decode cL_step 523 = .ok (.iaload, 1) := by decide +kernel
theorem dL_step_524 : decode cL_step 524 = .ok (.iconst 1, 1) := by decide +kernel
theorem dL_step_525 : decode cL_step 525 = .ok (.iadd, 1) := by decide +kernel
theorem dL_step_526 : decode cL_step 526 = .ok (.if_icmp .ne 7, 3) := by decide +kernel
theorem dL_step_529 : decode cL_step 529 = .ok (.iconst 1, 1) := by decide +kernel
theorem dL_step_530 : decode cL_step 530 = .ok (.goto 4, 3) := by decide +kernel
theorem dL_step_533 : decode cL_step 533 = .ok (.iconst 0, 1) := by decide +kernel
theorem dL_step_534 : decode cL_step 534 = .ok (.istore 16, 2) := by decide +kernel
theorem dL_step_536 : decode cL_step 536 = .ok (.aload 4, 2) := by decide +kernel
theorem dL_step_538 : decode cL_step 538 = .ok (.bipush 12, 2) := by decide +kernel
theorem dL_step_540 : decode cL_step 540 = .ok (.iload 9, 2) := by decide +kernel
theorem dL_step_542 : decode cL_step 542 = .ok (.iadd, 1) := by decide +kernel
theorem dL_step_543 : decode cL_step 543 = .ok (.iload 15, 2) := by decide +kernel
theorem dL_step_545 : decode cL_step 545 = .ok (.iastore, 1) := by decide +kernel
theorem dL_step_546 : decode cL_step 546 = .ok (.iload 16, 2) := by decide +kernel
theorem dL_step_548 : decode cL_step 548 = .ok (.ifCond .eq 47, 3) := by decide +kernel
theorem dL_step_551 : decode cL_step 551 = .ok (.iload 14, 2) := by decide +kernel
theorem dL_step_553 : decode cL_step 553 = .ok (.aload_n 1, 1) := by decide +kernel
theorem dL_step_554 : decode cL_step 554 = .ok (.bipush 12, 2) := by decide +kernel
theorem dL_step_556 : decode cL_step 556 = .ok (.iload 9, 2) := by decide +kernel
theorem dL_step_558 : decode cL_step 558 = .ok (.iadd, 1) := by decide +kernel
theorem dL_step_559 : decode cL_step 559 = .ok (.iaload, 1) := by decide +kernel
theorem dL_step_560 : decode cL_step 560 = .ok (.aload 4, 2) := by decide +kernel
theorem dL_step_562 : decode cL_step 562 = .ok (.iload 9, 2) := by decide +kernel
theorem dL_step_564 : decode cL_step 564 = .ok (.iaload, 1) := by decide +kernel
theorem dL_step_565 : decode cL_step 565 = .ok (.iadd, 1) := by decide +kernel
theorem dL_step_566 : decode cL_step 566 = .ok (.if_icmp .lt 25, 3) := by decide +kernel
theorem dL_step_569 : decode cL_step 569 = .ok (.aload_n 0, 1) := by decide +kernel
theorem dL_step_570 : decode cL_step 570 = .ok (.iload 9, 2) := by decide +kernel
theorem dL_step_572 : decode cL_step 572 = .ok (.iload 14, 2) := by decide +kernel
theorem dL_step_574 : decode cL_step 574 = .ok (.invokevirtual 37, 3) := by decide +kernel
theorem dL_step_577 : decode cL_step 577 = .ok (.iconst 1, 1) := by decide +kernel
theorem dL_step_578 : decode cL_step 578 = .ok (.iload 7, 2) := by decide +kernel
theorem dL_step_580 : decode cL_step 580 = .ok (.sipush 700, 3) := by decide +kernel
theorem dL_step_583 : decode cL_step 583 = .ok (.idiv, 1) := by decide +kernel
theorem dL_step_584 : decode cL_step 584 = .ok (.ldc 23, 2) := by decide +kernel
theorem dL_step_586 : decode cL_step 586 = .ok (.irem, 1) := by decide +kernel
theorem dL_step_587 : decode cL_step 587 = .ok (.iadd, 1) := by decide +kernel
theorem dL_step_588 : decode cL_step 588 = .ok (.if_icmp .lt 7, 3) := by decide +kernel
theorem dL_step_591 : decode cL_step 591 = .ok (.iconst 1, 1) := by decide +kernel
theorem dL_step_592 : decode cL_step 592 = .ok (.goto 4, 3) := by decide +kernel
theorem dL_step_595 : decode cL_step 595 = .ok (.iconst 0, 1) := by decide +kernel
theorem dL_step_596 : decode cL_step 596 = .ok (.ireturn, 1) := by decide +kernel
theorem dL_step_597 : decode cL_step 597 = .ok (.iload 8, 2) := by decide +kernel
theorem dL_step_599 : decode cL_step 599 = .ok (.ifCond .le 93, 3) := by decide +kernel
theorem dL_step_602 : decode cL_step 602 = .ok (.aload 4, 2) := by decide +kernel
theorem dL_step_604 : decode cL_step 604 = .ok (.iload 9, 2) := by decide +kernel
theorem dL_step_606 : decode cL_step 606 = .ok (.iload 7, 2) := by decide +kernel
theorem dL_step_608 : decode cL_step 608 = .ok (.iload 7, 2) := by decide +kernel
theorem dL_step_610 : decode cL_step 610 = .ok (.iconst 2, 1) := by decide +kernel
theorem dL_step_611 : decode cL_step 611 = .ok (.irem, 1) := by decide +kernel
theorem dL_step_612 : decode cL_step 612 = .ok (.ifCond .ne 9, 3) := by decide +kernel
theorem dL_step_615 : decode cL_step 615 = .ok (.sipush 721, 3) := by decide +kernel
theorem dL_step_618 : decode cL_step 618 = .ok (.goto 5, 3) := by decide +kernel
theorem dL_step_621 : decode cL_step 621 = .ok (.bipush 40, 2) := by decide +kernel
theorem dL_step_623 : decode cL_step 623 = .ok (.irem, 1) := by decide +kernel
theorem dL_step_624 : decode cL_step 624 = .ok (.iastore, 1) := by decide +kernel
theorem dL_step_625 : decode cL_step 625 = .ok (.aload 4, 2) := by decide +kernel
theorem dL_step_627 : decode cL_step 627 = .ok (.bipush 24, 2) := by decide +kernel
theorem dL_step_629 : decode cL_step 629 = .ok (.iload 9, 2) := by decide +kernel
theorem dL_step_631 : decode cL_step 631 = .ok (.iadd, 1) := by decide +kernel
theorem dL_step_632 : decode cL_step 632 = .ok (.iload 7, 2) := by decide +kernel
theorem dL_step_634 : decode cL_step 634 = .ok (.sipush 721, 3) := by decide +kernel
theorem dL_step_637 : decode cL_step 637 = .ok (.idiv, 1) := by decide +kernel
theorem dL_step_638 : decode cL_step 638 = .ok (.iconst 4, 1) := by decide +kernel
theorem dL_step_639 : decode cL_step 639 = .ok (.irem, 1) := by decide +kernel
theorem dL_step_640 : decode cL_step 640 = .ok (.ifCond .ne 7, 3) := by decide +kernel
theorem dL_step_643 : decode cL_step 643 = .ok (.iconst 0, 1) := by decide +kernel
theorem dL_step_644 : decode cL_step 644 = .ok (.goto 28, 3) := by decide +kernel
theorem dL_step_647 : decode cL_step 647 = .ok (.bipush 30, 2) := by decide +kernel
theorem dL_step_649 : decode cL_step 649 = .ok (.iload 7, 2) := by decide +kernel
theorem dL_step_651 : decode cL_step 651 = .ok (.sipush 2884, 3) := by decide +kernel
theorem dL_step_654 : decode cL_step 654 = .ok (.idiv, 1) := by decide +kernel
theorem dL_step_655 : decode cL_step 655 = .ok (.iload 6, 2) := by decide +kernel
theorem dL_step_657 : decode cL_step 657 = .ok (.iconst 2, 1) := by decide +kernel
theorem dL_step_658 : decode cL_step 658 = .ok (.irem, 1) := by decide +kernel
theorem dL_step_659 : decode cL_step 659 = .ok (.ifCond .ne 9, 3) := by decide +kernel
theorem dL_step_662 : decode cL_step 662 = .ok (.sipush 1771, 3) := by decide +kernel
theorem dL_step_665 : decode cL_step 665 = .ok (.goto 5, 3) := by decide +kernel
theorem dL_step_668 : decode cL_step 668 = .ok (.bipush 100, 2) := by decide +kernel
theorem dL_step_670 : decode cL_step 670 = .ok (.irem, 1) := by decide +kernel
theorem dL_step_671 : decode cL_step 671 = .ok (.iadd, 1) := by decide +kernel
theorem dL_step_672 : decode cL_step 672 = .ok (.iastore, 1) := by decide +kernel
theorem dL_step_673 : decode cL_step 673 = .ok (.aload_n 0, 1) := by decide +kernel
theorem dL_step_674 : decode cL_step 674 = .ok (.iload 9, 2) := by decide +kernel
theorem dL_step_676 : decode cL_step 676 = .ok (.aload 4, 2) := by decide +kernel
theorem dL_step_678 : decode cL_step 678 = .ok (.iload 9, 2) := by decide +kernel
theorem dL_step_680 : decode cL_step 680 = .ok (.iaload, 1) := by decide +kernel
theorem dL_step_681 : decode cL_step 681 = .ok (.aload 4, 2) := by decide +kernel
theorem dL_step_683 : decode cL_step 683 = .ok (.bipush 24, 2) := by decide +kernel
theorem dL_step_685 : decode cL_step 685 = .ok (.iload 9, 2) := by decide +kernel
theorem dL_step_687 : decode cL_step 687 = .ok (.iadd, 1) := by decide +kernel
theorem dL_step_688 : decode cL_step 688 = .ok (.iaload, 1) := by decide +kernel
theorem dL_step_689 : decode cL_step 689 = .ok (.invokevirtual 44, 3) := by decide +kernel
theorem dL_step_692 : decode cL_step 692 = .ok (.iload 8, 2) := by decide +kernel
theorem dL_step_694 : decode cL_step 694 = .ok (.ifCond .eq 38, 3) := by decide +kernel
theorem dL_step_697 : decode cL_step 697 = .ok (.aload_n 0, 1) := by decide +kernel
theorem dL_step_698 : decode cL_step 698 = .ok (.iload 9, 2) := by decide +kernel
theorem dL_step_700 : decode cL_step 700 = .ok (.aload_n 1, 1) := by decide +kernel
theorem dL_step_701 : decode cL_step 701 = .ok (.bipush 12, 2) := by decide +kernel
theorem dL_step_703 : decode cL_step 703 = .ok (.iload 9, 2) := by decide +kernel
theorem dL_step_705 : decode cL_step 705 = .ok (.iadd, 1) := by decide +kernel
theorem dL_step_706 : decode cL_step 706 = .ok (.iaload, 1) := by decide +kernel
theorem dL_step_707 : decode cL_step 707 = .ok (.invokevirtual 37, 3) := by decide +kernel
theorem dL_step_710 : decode cL_step 710 = .ok (.aload 4, 2) := by decide +kernel
theorem dL_step_712 : decode cL_step 712 = .ok (.iload 9, 2) := by decide +kernel
theorem dL_step_714 : decode cL_step 714 = .ok (.iaload, 1) := by decide +kernel
theorem dL_step_715 : decode cL_step 715 = .ok (.ifCond .le 7, 3) := by decide +kernel
theorem dL_step_718 : decode cL_step 718 = .ok (.iconst 0, 1) := by decide +kernel
theorem dL_step_719 : decode cL_step 719 = .ok (.goto 10, 3) := by decide +kernel
theorem dL_step_722 : decode cL_step 722 = .ok (.aload_n 1, 1) := by decide +kernel
theorem dL_step_723 : decode cL_step 723 = .ok (.bipush 36, 2) := by decide +kernel
theorem dL_step_725 : decode cL_step 725 = .ok (.iload 9, 2) := by decide +kernel
theorem dL_step_727 : decode cL_step 727 = .ok (.iadd, 1) := by decide +kernel
theorem dL_step_728 : decode cL_step 728 = .ok (.iaload, 1) := by decide +kernel
theorem dL_step_729 : decode cL_step 729 = .ok (.if_icmp .ne 7, 3) := by decide +kernel
theorem dL_step_732 : decode cL_step 732 = .ok (.iconst 1, 1) := by decide +kernel
theorem dL_step_733 : decode cL_step 733 = .ok (.goto 4, 3) := by decide +kernel
theorem dL_step_736 : decode cL_step 736 = .ok (.iconst 0, 1) := by decide +kernel
theorem dL_step_737 : decode cL_step 737 = .ok (.ireturn, 1) := by decide +kernel
theorem dL_step_738 : decode cL_step 738 = .ok (.iload 8, 2) := by decide +kernel
theorem dL_step_740 : decode cL_step 740 = .ok (.ifCond .le 63, 3) := by decide +kernel
theorem dL_step_743 : decode cL_step 743 = .ok (.aload_n 1, 1) := by decide +kernel
theorem dL_step_744 : decode cL_step 744 = .ok (.bipush 48, 2) := by decide +kernel
theorem dL_step_746 : decode cL_step 746 = .ok (.iload 9, 2) := by decide +kernel
theorem dL_step_748 : decode cL_step 748 = .ok (.iadd, 1) := by decide +kernel
theorem dL_step_749 : decode cL_step 749 = .ok (.iload 7, 2) := by decide +kernel
theorem dL_step_751 : decode cL_step 751 = .ok (.iconst 4, 1) := by decide +kernel
theorem dL_step_752 : decode cL_step 752 = .ok (.irem, 1) := by decide +kernel
theorem dL_step_753 : decode cL_step 753 = .ok (.ifCond .ne 7, 3) := by decide +kernel
theorem dL_step_756 : decode cL_step 756 = .ok (.iconst (-1), 1) := by decide +kernel
theorem dL_step_757 : decode cL_step 757 = .ok (.goto 23, 3) := by decide +kernel
theorem dL_step_760 : decode cL_step 760 = .ok (.iload 7, 2) := by decide +kernel
theorem dL_step_762 : decode cL_step 762 = .ok (.iconst 4, 1) := by decide +kernel
theorem dL_step_763 : decode cL_step 763 = .ok (.idiv, 1) := by decide +kernel
theorem dL_step_764 : decode cL_step 764 = .ok (.iload 7, 2) := by decide +kernel
theorem dL_step_766 : decode cL_step 766 = .ok (.iconst 3, 1) := by decide +kernel
theorem dL_step_767 : decode cL_step 767 = .ok (.irem, 1) := by decide +kernel
theorem dL_step_768 : decode cL_step 768 = .ok (.ifCond .ne 8, 3) := by decide +kernel
theorem dL_step_771 : decode cL_step 771 = .ok (.ldc 19, 2) := by decide +kernel
theorem dL_step_773 : decode cL_step 773 = .ok (.goto 6, 3) := by decide +kernel
theorem dL_step_776 : decode cL_step 776 = .ok (.sipush 30000, 3) := by decide +kernel
theorem dL_step_779 : decode cL_step 779 = .ok (.irem, 1) := by decide +kernel
theorem dL_step_780 : decode cL_step 780 = .ok (.iastore, 1) := by decide +kernel
theorem dL_step_781 : decode cL_step 781 = .ok (.aload_n 0, 1) := by decide +kernel
theorem dL_step_782 : decode cL_step 782 = .ok (.iload 9, 2) := by decide +kernel
theorem dL_step_784 : decode cL_step 784 = .ok (.aload_n 1, 1) := by decide +kernel
theorem dL_step_785 : decode cL_step 785 = .ok (.bipush 48, 2) := by decide +kernel
theorem dL_step_787 : decode cL_step 787 = .ok (.iload 9, 2) := by decide +kernel
theorem dL_step_789 : decode cL_step 789 = .ok (.iadd, 1) := by decide +kernel
theorem dL_step_790 : decode cL_step 790 = .ok (.iaload, 1) := by decide +kernel
theorem dL_step_791 : decode cL_step 791 = .ok (.iload 6, 2) := by decide +kernel
theorem dL_step_793 : decode cL_step 793 = .ok (.bipush 12, 2) := by decide +kernel
theorem dL_step_795 : decode cL_step 795 = .ok (.idiv, 1) := by decide +kernel
theorem dL_step_796 : decode cL_step 796 = .ok (.sipush 10000, 3) := by decide +kernel
theorem dL_step_799 : decode cL_step 799 = .ok (.irem, 1) := by decide +kernel
theorem dL_step_800 : decode cL_step 800 = .ok (.invokevirtual 48, 3) := by decide +kernel
theorem dL_step_803 : decode cL_step 803 = .ok (.aload_n 0, 1) := by decide +kernel
theorem dL_step_804 : decode cL_step 804 = .ok (.invokevirtual 30, 3) := by decide +kernel
theorem dL_step_807 : decode cL_step 807 = .ok (.iload 8, 2) := by decide +kernel
theorem dL_step_809 : decode cL_step 809 = .ok (.if_icmp .ne 7, 3) := by decide +kernel
theorem dL_step_812 : decode cL_step 812 = .ok (.iconst 1, 1) := by decide +kernel
theorem dL_step_813 : decode cL_step 813 = .ok (.goto 4, 3) := by decide +kernel
theorem dL_step_816 : decode cL_step 816 = .ok (.iconst 0, 1) := by decide +kernel
theorem dL_step_817 : decode cL_step 817 = .ok (.ireturn, 1) := by decide +kernel
theorem dL_step_818 : decode cL_step 818 = .ok (.iload 8, 2) := by decide +kernel
theorem dL_step_820 : decode cL_step 820 = .ok (.ifCond .eq 21, 3) := by decide +kernel
theorem dL_step_823 : decode cL_step 823 = .ok (.aload_n 0, 1) := by decide +kernel
theorem dL_step_824 : decode cL_step 824 = .ok (.aload_n 1, 1) := by decide +kernel
theorem dL_step_825 : decode cL_step 825 = .ok (.aload_n 3, 1) := by decide +kernel
theorem dL_step_826 : decode cL_step 826 = .ok (.iload 9, 2) := by decide +kernel
theorem dL_step_828 : decode cL_step 828 = .ok (.iload 6, 2) := by decide +kernel
theorem dL_step_830 : decode cL_step 830 = .ok (.bipush 12, 2) := by decide +kernel
theorem dL_step_832 : decode cL_step 832 = .ok (.idiv, 1) := by decide +kernel
theorem dL_step_833 : decode cL_step 833 = .ok (.iload 7, 2) := by decide +kernel
theorem dL_step_835 : decode cL_step 835 = .ok (.invokestatic 51, 3) := by decide +kernel
theorem dL_step_838 : decode cL_step 838 = .ok (.ifCond .eq 7, 3) := by decide +kernel
theorem dL_step_841 : decode cL_step 841 = .ok (.iconst 1, 1) := by decide +kernel
theorem dL_step_842 : decode cL_step 842 = .ok (.goto 4, 3) := by decide +kernel
theorem dL_step_845 : decode cL_step 845 = .ok (.iconst 0, 1) := by decide +kernel
theorem dL_step_846 : decode cL_step 846 = .ok (.ireturn, 1) := by decide +kernel
set_option maxRecDepth 20000 in
theorem ggL_lets_X1_leases : GoodIn wsL_lets wsX1_leases := goodIn_r _ [5, 6, 108, 109, 110, 111, 112] (by decide +kernel) (by decide +kernel)
set_option maxRecDepth 20000 in
theorem gL_lets_X1_leases : GoodIn wsL_lets (wsV RL 30 RX1 yX1_leases wsX1_leases) := goodIn_app (goodIn_of _ (by decide +kernel)) ggL_lets_X1_leases
set_option maxRecDepth 20000 in
theorem ggL_lets_X1_let : GoodIn wsL_lets wsX1_let := goodIn_ca (goodIn_ca (goodIn_ca (goodIn_r _ [10, 11, 12, 13, 14, 6, 15, 16, 17, 18, 19, 20, 4, 21, 22, 23, 24, 25, 26, 27, 28, 29, 30, 31, 32, 33, 34, 35, 36, 37, 38, 39, 40, 41, 42, 43, 44, 45, 46, 47, 48, 49, 50, 51, 52, 53, 54, 55, 56, 57, 58, 59, 60, 61, 62, 108, 109, 110, 111, 112, 113, 114, 115, 116, 117, 118, 119, 120, 121, 122, 123, 124] (by decide +kernel) (by decide +kernel)) (goodIn_sub (fun _ h => List.mem_cons_of_mem _ (List.mem_append_left _ (List.mem_append_left _ (List.mem_append_right _ h)))) (by decide +kernel))) (goodIn_sub (fun _ h => List.mem_cons_of_mem _ (List.mem_append_left _ (List.mem_append_right _ h))) (by decide +kernel))) (goodIn_sub (fun _ h => List.mem_cons_of_mem _ (List.mem_append_right _ h)) (by decide +kernel))
set_option maxRecDepth 20000 in
theorem gL_lets_X1_let : GoodIn wsL_lets (wsV RL 55 RX1 yX1_let wsX1_let) := goodIn_app (goodIn_of _ (by decide +kernel)) ggL_lets_X1_let
set_option maxRecDepth 20000 in
theorem ggL_lets_X1_leaseOn : GoodIn wsL_lets wsX1_leaseOn := goodIn_ca (goodIn_r _ [66, 13, 15, 19, 20, 4, 21, 22, 23, 67, 68, 69, 18, 70, 42, 37, 108, 109, 110, 111, 112, 113, 114, 115, 116, 117, 118, 119, 120, 121, 122, 123, 124] (by decide +kernel) (by decide +kernel)) (goodIn_sub (fun _ h => List.mem_cons_of_mem _ (List.mem_append_left _ (List.mem_append_right _ h))) (by decide +kernel))
set_option maxRecDepth 20000 in
theorem gL_lets_X1_leaseOn : GoodIn wsL_lets (wsV RL 59 RX1 yX1_leaseOn wsX1_leaseOn) := goodIn_app (goodIn_of _ (by decide +kernel)) ggL_lets_X1_leaseOn
set_option maxRecDepth 20000 in
theorem ggL_lets_X1_rentOn : GoodIn wsL_lets wsX1_rentOn := goodIn_ca (goodIn_r _ [74, 75, 76, 77, 4, 78, 22, 23, 15, 19, 20, 21, 79, 80, 81, 82, 83, 84, 44, 40, 45, 67, 68, 69, 18, 70, 42, 37, 85, 86, 87, 88, 52, 89, 90, 91, 92, 62, 60, 58, 59, 93, 94, 95, 96, 97, 98, 99, 100, 101, 102, 103, 53, 108, 109, 110, 111, 112, 113, 114, 115, 116, 117, 118, 119, 120, 121, 122, 123, 124] (by decide +kernel) (by decide +kernel)) (goodIn_sub (fun _ h => List.mem_cons_of_mem _ (List.mem_append_left _ (List.mem_append_right _ h))) (by decide +kernel))
set_option maxRecDepth 20000 in
theorem gL_lets_X1_rentOn : GoodIn wsL_lets (wsV RL 37 RX1 yX1_rentOn wsX1_rentOn) := goodIn_app (goodIn_of _ (by decide +kernel)) ggL_lets_X1_rentOn
set_option maxRecDepth 20000 in
theorem ggL_lets_X1_held : GoodIn wsL_lets wsX1_held := goodIn_ca (goodIn_r _ [107, 75, 76, 77, 4, 78, 22, 23, 15, 19, 20, 21, 113, 114, 115, 116, 117, 118, 119, 120, 121, 122, 123, 124, 108, 109, 110, 111, 112] (by decide +kernel) (by decide +kernel)) (goodIn_sub (fun _ h => List.mem_cons_of_mem _ (List.mem_append_left _ (List.mem_append_right _ h))) (by decide +kernel))
set_option maxRecDepth 20000 in
theorem gL_lets_X1_held : GoodIn wsL_lets (wsV RL 62 RX1 yX1_held wsX1_held) := goodIn_app (goodIn_of _ (by decide +kernel)) ggL_lets_X1_held
theorem dL_lets_0 : decode cL_lets 0 = .ok (.iload 5, 2) := by decide +kernel
theorem dL_lets_2 : decode cL_lets 2 = .ok (.iload 6, 2) := by decide +kernel
theorem dL_lets_4 : decode cL_lets 4 = .ok (.iadd, 1) := by decide +kernel
theorem dL_lets_5 : decode cL_lets 5 = .ok (.sipush 7200, 3) := by decide +kernel
theorem dL_lets_8 : decode cL_lets 8 = .ok (.if_icmp .le 9, 3) := by decide +kernel
theorem dL_lets_11 : decode cL_lets 11 = .ok (.sipush 7200, 3) := by decide +kernel
theorem dL_lets_14 : decode cL_lets 14 = .ok (.goto 8, 3) := by decide +kernel
theorem dL_lets_17 : decode cL_lets 17 = .ok (.iload 5, 2) := by decide +kernel
theorem dL_lets_19 : decode cL_lets 19 = .ok (.iload 6, 2) := by decide +kernel
theorem dL_lets_21 : decode cL_lets 21 = .ok (.iadd, 1) := by decide +kernel
theorem dL_lets_22 : decode cL_lets 22 = .ok (.istore 8, 2) := by decide +kernel
theorem dL_lets_24 : decode cL_lets 24 = .ok (.iconst 0, 1) := by decide +kernel
theorem dL_lets_25 : decode cL_lets 25 = .ok (.istore 9, 2) := by decide +kernel
theorem dL_lets_27 : decode cL_lets 27 = .ok (.iload 9, 2) := by decide +kernel
theorem dL_lets_29 : decode cL_lets 29 = .ok (.aload_n 2, 1) := by decide +kernel
theorem dL_lets_30 : decode cL_lets 30 = .ok (.iconst 0, 1) := by decide +kernel
theorem dL_lets_31 : decode cL_lets 31 = .ok (.iaload, 1) := by decide +kernel
theorem dL_lets_32 : decode cL_lets 32 = .ok (.if_icmp .ge 58, 3) := by decide +kernel
theorem dL_lets_35 : decode cL_lets 35 = .ok (.aload_n 1, 1) := by decide +kernel
theorem dL_lets_36 : decode cL_lets 36 = .ok (.iload 9, 2) := by decide +kernel
theorem dL_lets_38 : decode cL_lets 38 = .ok (.iaload, 1) := by decide +kernel
theorem dL_lets_39 : decode cL_lets 39 = .ok (.iload 4, 2) := by decide +kernel
theorem dL_lets_41 : decode cL_lets 41 = .ok (.if_icmp .ne 43, 3) := by decide +kernel
theorem dL_lets_44 : decode cL_lets 44 = .ok (.aload_n 1, 1) := by decide +kernel
theorem dL_lets_45 : decode cL_lets 45 = .ok (.bipush 12, 2) := by decide +kernel
theorem dL_lets_47 : decode cL_lets 47 = .ok (.iload 9, 2) := by decide +kernel
theorem dL_lets_49 : decode cL_lets 49 = .ok (.iadd, 1) := by decide +kernel
theorem dL_lets_50 : decode cL_lets 50 = .ok (.iaload, 1) := by decide +kernel
theorem dL_lets_51 : decode cL_lets 51 = .ok (.iload 8, 2) := by decide +kernel
theorem dL_lets_53 : decode cL_lets 53 = .ok (.if_icmp .ge 31, 3) := by decide +kernel
theorem dL_lets_56 : decode cL_lets 56 = .ok (.iload 5, 2) := by decide +kernel
theorem dL_lets_58 : decode cL_lets 58 = .ok (.aload_n 1, 1) := by decide +kernel
theorem dL_lets_59 : decode cL_lets 59 = .ok (.bipush 24, 2) := by decide +kernel
theorem dL_lets_61 : decode cL_lets 61 = .ok (.iload 9, 2) := by decide +kernel
theorem dL_lets_63 : decode cL_lets 63 = .ok (.iadd, 1) := by decide +kernel
theorem dL_lets_64 : decode cL_lets 64 = .ok (.iaload, 1) := by decide +kernel
theorem dL_lets_65 : decode cL_lets 65 = .ok (.if_icmp .ge 19, 3) := by decide +kernel
theorem dL_lets_68 : decode cL_lets 68 = .ok (.aload_n 0, 1) := by decide +kernel
theorem dL_lets_69 : decode cL_lets 69 = .ok (.invokevirtual 30, 3) := by decide +kernel
theorem dL_lets_72 : decode cL_lets 72 = .ok (.aload_n 2, 1) := by decide +kernel
theorem dL_lets_73 : decode cL_lets 73 = .ok (.iconst 0, 1) := by decide +kernel
theorem dL_lets_74 : decode cL_lets 74 = .ok (.iaload, 1) := by decide +kernel
theorem dL_lets_75 : decode cL_lets 75 = .ok (.if_icmp .ne 7, 3) := by decide +kernel
theorem dL_lets_78 : decode cL_lets 78 = .ok (.iconst 1, 1) := by decide +kernel
theorem dL_lets_79 : decode cL_lets 79 = .ok (.goto 4, 3) := by decide +kernel
theorem dL_lets_82 : decode cL_lets 82 = .ok (.iconst 0, 1) := by decide +kernel
theorem dL_lets_83 : decode cL_lets 83 = .ok (.ireturn, 1) := by decide +kernel
theorem dL_lets_84 : decode cL_lets 84 = .ok (.iinc 9 1, 3) := by decide +kernel
theorem dL_lets_87 : decode cL_lets 87 = .ok (.goto (-60), 3) := by decide +kernel
theorem dL_lets_90 : decode cL_lets 90 = .ok (.aload_n 2, 1) := by decide +kernel
theorem dL_lets_91 : decode cL_lets 91 = .ok (.iconst 0, 1) := by decide +kernel
theorem dL_lets_92 : decode cL_lets 92 = .ok (.iaload, 1) := by decide +kernel
theorem dL_lets_93 : decode cL_lets 93 = .ok (.istore 9, 2) := by decide +kernel
theorem dL_lets_95 : decode cL_lets 95 = .ok (.aload_n 1, 1) := by decide +kernel
theorem dL_lets_96 : decode cL_lets 96 = .ok (.iload 9, 2) := by decide +kernel
theorem dL_lets_98 : decode cL_lets 98 = .ok (.iload 4, 2) := by decide +kernel
theorem dL_lets_100 : decode cL_lets 100 = .ok (.iastore, 1) := by decide +kernel
theorem dL_lets_101 : decode cL_lets 101 = .ok (.aload_n 1, 1) := by decide +kernel
theorem dL_lets_102 : decode cL_lets 102 = .ok (.bipush 12, 2) := by decide +kernel
theorem dL_lets_104 : decode cL_lets 104 = .ok (.iload 9, 2) := by decide +kernel
theorem dL_lets_106 : decode cL_lets 106 = .ok (.iadd, 1) := by decide +kernel
theorem dL_lets_107 : decode cL_lets 107 = .ok (.iload 5, 2) := by decide +kernel
theorem dL_lets_109 : decode cL_lets 109 = .ok (.iastore, 1) := by decide +kernel
theorem dL_lets_110 : decode cL_lets 110 = .ok (.aload_n 1, 1) := by decide +kernel
theorem dL_lets_111 : decode cL_lets 111 = .ok (.bipush 24, 2) := by decide +kernel
theorem dL_lets_113 : decode cL_lets 113 = .ok (.iload 9, 2) := by decide +kernel
theorem dL_lets_115 : decode cL_lets 115 = .ok (.iadd, 1) := by decide +kernel
theorem dL_lets_116 : decode cL_lets 116 = .ok (.iload 8, 2) := by decide +kernel
theorem dL_lets_118 : decode cL_lets 118 = .ok (.iastore, 1) := by decide +kernel
theorem dL_lets_119 : decode cL_lets 119 = .ok (.aload_n 1, 1) := by decide +kernel
theorem dL_lets_120 : decode cL_lets 120 = .ok (.bipush 36, 2) := by decide +kernel
theorem dL_lets_122 : decode cL_lets 122 = .ok (.iload 9, 2) := by decide +kernel
theorem dL_lets_124 : decode cL_lets 124 = .ok (.iadd, 1) := by decide +kernel
theorem dL_lets_125 : decode cL_lets 125 = .ok (.iload 7, 2) := by decide +kernel
theorem dL_lets_127 : decode cL_lets 127 = .ok (.iastore, 1) := by decide +kernel
theorem dL_lets_128 : decode cL_lets 128 = .ok (.aload_n 1, 1) := by decide +kernel
theorem dL_lets_129 : decode cL_lets 129 = .ok (.bipush 48, 2) := by decide +kernel
theorem dL_lets_131 : decode cL_lets 131 = .ok (.iload 9, 2) := by decide +kernel
theorem dL_lets_133 : decode cL_lets 133 = .ok (.iadd, 1) := by decide +kernel
theorem dL_lets_134 : decode cL_lets 134 = .ok (.iconst (-1), 1) := by decide +kernel
theorem dL_lets_135 : decode cL_lets 135 = .ok (.iastore, 1) := by decide +kernel
theorem dL_lets_136 : decode cL_lets 136 = .ok (.aload_n 2, 1) := by decide +kernel
theorem dL_lets_137 : decode cL_lets 137 = .ok (.iconst 0, 1) := by decide +kernel
theorem dL_lets_138 : decode cL_lets 138 = .ok (.dup2, 1) := by decide +kernel
theorem dL_lets_139 : decode cL_lets 139 = .ok (.iaload, 1) := by decide +kernel
theorem dL_lets_140 : decode cL_lets 140 = .ok (.iconst 1, 1) := by decide +kernel
theorem dL_lets_141 : decode cL_lets 141 = .ok (.iadd, 1) := by decide +kernel
theorem dL_lets_142 : decode cL_lets 142 = .ok (.iastore, 1) := by decide +kernel
theorem dL_lets_143 : decode cL_lets 143 = .ok (.aload_n 0, 1) := by decide +kernel
theorem dL_lets_144 : decode cL_lets 144 = .ok (.iload 4, 2) := by decide +kernel
theorem dL_lets_146 : decode cL_lets 146 = .ok (.iload 5, 2) := by decide +kernel
theorem dL_lets_148 : decode cL_lets 148 = .ok (.iload 8, 2) := by decide +kernel
theorem dL_lets_150 : decode cL_lets 150 = .ok (.iload 7, 2) := by decide +kernel
theorem dL_lets_152 : decode cL_lets 152 = .ok (.invokevirtual 55, 3) := by decide +kernel
theorem dL_lets_155 : decode cL_lets 155 = .ok (.iload 9, 2) := by decide +kernel
theorem dL_lets_157 : decode cL_lets 157 = .ok (.if_icmp .ne 78, 3) := by decide +kernel
theorem dL_lets_160 : decode cL_lets 160 = .ok (.aload_n 0, 1) := by decide +kernel
theorem dL_lets_161 : decode cL_lets 161 = .ok (.invokevirtual 30, 3) := by decide +kernel
theorem dL_lets_164 : decode cL_lets 164 = .ok (.iload 9, 2) := by decide +kernel
theorem dL_lets_166 : decode cL_lets 166 = .ok (.iconst 1, 1) := by decide +kernel
theorem dL_lets_167 : decode cL_lets 167 = .ok (.iadd, 1) := by decide +kernel
theorem dL_lets_168 : decode cL_lets 168 = .ok (.if_icmp .ne 67, 3) := by decide +kernel
theorem dL_lets_171 : decode cL_lets 171 = .ok (.aload_n 0, 1) := by decide +kernel
theorem dL_lets_172 : decode cL_lets 172 = .ok (.iload 4, 2) := by decide +kernel
theorem dL_lets_174 : decode cL_lets 174 = .ok (.iload 5, 2) := by decide +kernel
theorem dL_lets_176 : decode cL_lets 176 = .ok (.invokevirtual 59, 3) := by decide +kernel
theorem dL_lets_179 : decode cL_lets 179 = .ok (.iload 9, 2) := by decide +kernel
theorem dL_lets_181 : decode cL_lets 181 = .ok (.if_icmp .ne 54, 3) := by decide +kernel
theorem dL_lets_184 : decode cL_lets 184 = .ok (.aload_n 0, 1) := by decide +kernel
theorem dL_lets_185 : decode cL_lets 185 = .ok (.iload 4, 2) := by decide +kernel
theorem dL_lets_187 : decode cL_lets 187 = .ok (.iload 8, 2) := by decide +kernel
theorem dL_lets_189 : decode cL_lets 189 = .ok (.iconst 1, 1) := by decide +kernel
theorem dL_lets_190 : decode cL_lets 190 = .ok (.isub, 1) := by decide +kernel
theorem dL_lets_191 : decode cL_lets 191 = .ok (.invokevirtual 59, 3) := by decide +kernel
theorem dL_lets_194 : decode cL_lets 194 = .ok (.iload 9, 2) := by decide +kernel
theorem dL_lets_196 : decode cL_lets 196 = .ok (.if_icmp .ne 39, 3) := by decide +kernel
theorem dL_lets_199 : decode cL_lets 199 = .ok (.aload_n 0, 1) := by decide +kernel
theorem dL_lets_200 : decode cL_lets 200 = .ok (.iload 9, 2) := by decide +kernel
theorem dL_lets_202 : decode cL_lets 202 = .ok (.iload 5, 2) := by decide +kernel
theorem dL_lets_204 : decode cL_lets 204 = .ok (.invokevirtual 37, 3) := by decide +kernel
theorem dL_lets_207 : decode cL_lets 207 = .ok (.iload 7, 2) := by decide +kernel
theorem dL_lets_209 : decode cL_lets 209 = .ok (.if_icmp .ne 26, 3) := by decide +kernel
theorem dL_lets_212 : decode cL_lets 212 = .ok (.aload_n 0, 1) := by decide +kernel
theorem dL_lets_213 : decode cL_lets 213 = .ok (.iload 9, 2) := by decide +kernel
theorem dL_lets_215 : decode cL_lets 215 = .ok (.invokevirtual 62, 3) := by decide +kernel
theorem dL_lets_218 : decode cL_lets 218 = .ok (.ifCond .ne 17, 3) := by decide +kernel
theorem dL_lets_221 : decode cL_lets 221 = .ok (.aload_n 3, 1) := by decide +kernel
theorem dL_lets_222 : decode cL_lets 222 = .ok (.bipush 12, 2) := by decide +kernel
theorem dL_lets_224 : decode cL_lets 224 = .ok (.iload 9, 2) := by decide +kernel
theorem dL_lets_226 : decode cL_lets 226 = .ok (.iadd, 1) := by decide +kernel
theorem dL_lets_227 : decode cL_lets 227 = .ok (.iaload, 1) := by decide +kernel
theorem dL_lets_228 : decode cL_lets 228 = .ok (.ifCond .ne 7, 3) := by decide +kernel
theorem dL_lets_231 : decode cL_lets 231 = .ok (.iconst 1, 1) := by decide +kernel
theorem dL_lets_232 : decode cL_lets 232 = .ok (.goto 4, 3) := by decide +kernel
theorem dL_lets_235 : decode cL_lets 235 = .ok (.iconst 0, 1) := by decide +kernel
theorem dL_lets_236 : decode cL_lets 236 = .ok (.ireturn, 1) := by decide +kernel
set_option maxRecDepth 20000 in
theorem ggL_pays_X1_held : GoodIn wsL_pays wsX1_held := goodIn_ca (goodIn_r _ [5, 6, 7, 8, 4, 9, 10, 11, 12, 13, 14, 15, 77, 78, 79, 80, 81, 82, 83, 84, 85, 86, 87, 88, 89, 90, 91, 92, 93] (by decide +kernel) (by decide +kernel)) (goodIn_sub (fun _ h => List.mem_cons_of_mem _ (List.mem_append_left _ (List.mem_append_left _ (List.mem_append_right _ h)))) (by decide +kernel))
set_option maxRecDepth 20000 in
theorem gL_pays_X1_held : GoodIn wsL_pays (wsV RL 62 RX1 yX1_held wsX1_held) := goodIn_app (goodIn_of _ (by decide +kernel)) ggL_pays_X1_held
set_option maxRecDepth 20000 in
theorem ggL_pays_X1_draw : GoodIn wsL_pays wsX1_draw := goodIn_ca (goodIn_ca (goodIn_ca (goodIn_r _ [19, 20, 21, 22, 6, 7, 8, 4, 9, 10, 11, 12, 13, 14, 15, 23, 24, 25, 26, 27, 77, 78, 79, 80, 81, 82, 83, 84, 85, 86, 87, 88, 89, 90, 91, 92, 93] (by decide +kernel) (by decide +kernel)) (goodIn_sub (fun _ h => List.mem_cons_of_mem _ (List.mem_append_left _ (List.mem_append_right _ h))) (by decide +kernel))) (goodIn_sub (fun _ h => List.mem_cons_of_mem _ (List.mem_append_left _ (List.mem_append_left _ (List.mem_append_right _ h)))) (by decide +kernel))) (goodIn_sub (fun _ h => List.mem_cons_of_mem _ (List.mem_append_right _ h)) (by decide +kernel))
set_option maxRecDepth 20000 in
theorem gL_pays_X1_draw : GoodIn wsL_pays (wsV RL 66 RX1 yX1_draw wsX1_draw) := goodIn_app (goodIn_of _ (by decide +kernel)) ggL_pays_X1_draw
set_option maxRecDepth 20000 in
theorem ggL_pays_X1_rentOn : GoodIn wsL_pays wsX1_rentOn := goodIn_ca (goodIn_r _ [31, 6, 7, 8, 4, 9, 10, 11, 12, 13, 14, 15, 32, 33, 34, 35, 36, 37, 38, 39, 40, 41, 42, 43, 44, 45, 46, 47, 48, 49, 50, 51, 52, 53, 54, 55, 56, 57, 58, 59, 60, 61, 62, 63, 64, 65, 66, 67, 68, 69, 70, 71, 72, 89, 90, 91, 92, 93, 77, 78, 79, 80, 81, 82, 83, 84, 85, 86, 87, 88] (by decide +kernel) (by decide +kernel)) (goodIn_sub (fun _ h => List.mem_cons_of_mem _ (List.mem_append_left _ (List.mem_append_left _ (List.mem_append_right _ h)))) (by decide +kernel))
set_option maxRecDepth 20000 in
theorem gL_pays_X1_rentOn : GoodIn wsL_pays (wsV RL 37 RX1 yX1_rentOn wsX1_rentOn) := goodIn_app (goodIn_of _ (by decide +kernel)) ggL_pays_X1_rentOn
set_option maxRecDepth 20000 in
theorem ggL_pays_X1_topUp : GoodIn wsL_pays wsX1_topUp := goodIn_ca (goodIn_ca (goodIn_r _ [76, 37, 38, 39, 40, 6, 7, 8, 4, 9, 10, 11, 12, 13, 14, 15, 23, 24, 25, 26, 27, 32, 33, 34, 35, 36, 41, 42, 43, 44, 45, 46, 47, 48, 49, 50, 51, 52, 53, 54, 55, 56, 57, 58, 59, 60, 61, 62, 63, 64, 65, 66, 67, 68, 69, 70, 71, 72, 77, 78, 79, 80, 81, 82, 83, 84, 85, 86, 87, 88, 89, 90, 91, 92, 93] (by decide +kernel) (by decide +kernel)) (goodIn_sub (fun _ h => List.mem_cons_of_mem _ (List.mem_append_left _ (List.mem_append_left _ (List.mem_append_right _ h)))) (by decide +kernel))) (goodIn_sub (fun _ h => List.mem_cons_of_mem _ (List.mem_append_right _ h)) (by decide +kernel))
set_option maxRecDepth 20000 in
theorem gL_pays_X1_topUp : GoodIn wsL_pays (wsV RL 69 RX1 yX1_topUp wsX1_topUp) := goodIn_app (goodIn_of _ (by decide +kernel)) ggL_pays_X1_topUp
theorem dL_pays_0 : decode cL_pays 0 = .ok (.aload_n 1, 1) := by decide +kernel
theorem dL_pays_1 : decode cL_pays 1 = .ok (.bipush 12, 2) := by decide +kernel
theorem dL_pays_3 : decode cL_pays 3 = .ok (.iload_n 3, 1) := by decide +kernel
theorem dL_pays_4 : decode cL_pays 4 = .ok (.iadd, 1) := by decide +kernel
theorem dL_pays_5 : decode cL_pays 5 = .ok (.iaload, 1) := by decide +kernel
theorem dL_pays_6 : decode cL_pays 6 = .ok (.iload 4, 2) := by decide +kernel
theorem dL_pays_8 : decode cL_pays 8 = .ok (.aload_n 1, 1) := by decide +kernel
theorem dL_pays_9 : decode cL_pays 9 = .ok (.bipush 24, 2) := by decide +kernel
theorem dL_pays_11 : decode cL_pays 11 = .ok (.iload_n 3, 1) := by decide +kernel
theorem dL_pays_12 : decode cL_pays 12 = .ok (.iadd, 1) := by decide +kernel
theorem dL_pays_13 : decode cL_pays 13 = .ok (.iaload, 1) := by decide +kernel
theorem dL_pays_14 : decode cL_pays 14 = .ok (.aload_n 1, 1) := by decide +kernel
theorem dL_pays_15 : decode cL_pays 15 = .ok (.bipush 12, 2) := by decide +kernel
theorem dL_pays_17 : decode cL_pays 17 = .ok (.iload_n 3, 1) := by decide +kernel
theorem dL_pays_18 : decode cL_pays 18 = .ok (.iadd, 1) := by decide +kernel
theorem dL_pays_19 : decode cL_pays 19 = .ok (.iaload, 1) := by decide +kernel
theorem dL_pays_20 : decode cL_pays 20 = .ok (.isub, 1) := by decide +kernel
theorem dL_pays_21 : decode cL_pays 21 = .ok (.irem, 1) := by decide +kernel
theorem dL_pays_22 : decode cL_pays 22 = .ok (.iadd, 1) := by decide +kernel
theorem dL_pays_23 : decode cL_pays 23 = .ok (.istore 6, 2) := by decide +kernel
theorem dL_pays_25 : decode cL_pays 25 = .ok (.aload_n 2, 1) := by decide +kernel
theorem dL_pays_26 : decode cL_pays 26 = .ok (.iload_n 3, 1) := by decide +kernel
theorem dL_pays_27 : decode cL_pays 27 = .ok (.iaload, 1) := by decide +kernel
theorem dL_pays_28 : decode cL_pays 28 = .ok (.istore 7, 2) := by decide +kernel
theorem dL_pays_30 : decode cL_pays 30 = .ok (.iload 5, 2) := by decide +kernel
theorem dL_pays_32 : decode cL_pays 32 = .ok (.iconst 3, 1) := by decide +kernel
theorem dL_pays_33 : decode cL_pays 33 = .ok (.irem, 1) := by decide +kernel
theorem dL_pays_34 : decode cL_pays 34 = .ok (.ifCond .ne 76, 3) := by decide +kernel
theorem dL_pays_37 : decode cL_pays 37 = .ok (.iconst 1, 1) := by decide +kernel
theorem dL_pays_38 : decode cL_pays 38 = .ok (.iload 5, 2) := by decide +kernel
theorem dL_pays_40 : decode cL_pays 40 = .ok (.sipush 5000, 3) := by decide +kernel
theorem dL_pays_43 : decode cL_pays 43 = .ok (.irem, 1) := by decide +kernel
theorem dL_pays_44 : decode cL_pays 44 = .ok (.iadd, 1) := by decide +kernel
theorem dL_pays_45 : decode cL_pays 45 = .ok (.istore 8, 2) := by decide +kernel
theorem dL_pays_47 : decode cL_pays 47 = .ok (.aload_n 2, 1) := by decide +kernel
theorem dL_pays_48 : decode cL_pays 48 = .ok (.iload_n 3, 1) := by decide +kernel
theorem dL_pays_49 : decode cL_pays 49 = .ok (.dup2, 1) := by decide +kernel
theorem dL_pays_50 : decode cL_pays 50 = .ok (.iaload, 1) := by decide +kernel
theorem dL_pays_51 : decode cL_pays 51 = .ok (.iload 8, 2) := by decide +kernel
theorem dL_pays_53 : decode cL_pays 53 = .ok (.iload 7, 2) := by decide +kernel
theorem dL_pays_55 : decode cL_pays 55 = .ok (.if_icmp .le 7, 3) := by decide +kernel
theorem dL_pays_58 : decode cL_pays 58 = .ok (.iconst 0, 1) := by decide +kernel
theorem dL_pays_59 : decode cL_pays 59 = .ok (.goto 5, 3) := by decide +kernel
theorem dL_pays_62 : decode cL_pays 62 = .ok (.iload 8, 2) := by decide +kernel
theorem dL_pays_64 : decode cL_pays 64 = .ok (.isub, 1) := by decide +kernel
theorem dL_pays_65 : decode cL_pays 65 = .ok (.iastore, 1) := by decide +kernel
theorem dL_pays_66 : decode cL_pays 66 = .ok (.iload 8, 2) := by decide +kernel
theorem dL_pays_68 : decode cL_pays 68 = .ok (.iload 7, 2) := by decide +kernel
theorem dL_pays_70 : decode cL_pays 70 = .ok (.if_icmp .le 21, 3) := by decide +kernel
theorem dL_pays_73 : decode cL_pays 73 = .ok (.aload_n 0, 1) := by decide +kernel
theorem dL_pays_74 : decode cL_pays 74 = .ok (.iload_n 3, 1) := by decide +kernel
theorem dL_pays_75 : decode cL_pays 75 = .ok (.invokevirtual 62, 3) := by decide +kernel
theorem dL_pays_78 : decode cL_pays 78 = .ok (.iload 7, 2) := by decide +kernel
theorem dL_pays_80 : decode cL_pays 80 = .ok (.if_icmp .ne 7, 3) := by decide +kernel
theorem dL_pays_83 : decode cL_pays 83 = .ok (.iconst 1, 1) := by decide +kernel
theorem dL_pays_84 : decode cL_pays 84 = .ok (.goto 25, 3) := by decide +kernel
theorem dL_pays_87 : decode cL_pays 87 = .ok (.iconst 0, 1) := by decide +kernel
theorem dL_pays_88 : decode cL_pays 88 = .ok (.goto 21, 3) := by decide +kernel
theorem dL_pays_91 : decode cL_pays 91 = .ok (.aload_n 0, 1) := by decide +kernel
theorem dL_pays_92 : decode cL_pays 92 = .ok (.iload_n 3, 1) := by decide +kernel
theorem dL_pays_93 : decode cL_pays 93 = .ok (.iload 8, 2) := by decide +kernel
theorem dL_pays_95 : decode cL_pays 95 = .ok (.invokevirtual 66, 3) := by decide +kernel
theorem dL_pays_98 : decode cL_pays 98 = .ok (.aload_n 2, 1) := by decide +kernel
theorem dL_pays_99 : decode cL_pays 99 = .ok (.iload_n 3, 1) := by decide +kernel
theorem dL_pays_100 : decode cL_pays 100 = .ok (.iaload, 1) := by decide +kernel
theorem dL_pays_101 : decode cL_pays 101 = .ok (.if_icmp .ne 7, 3) := by decide +kernel
theorem dL_pays_104 : decode cL_pays 104 = .ok (.iconst 1, 1) := by decide +kernel
theorem dL_pays_105 : decode cL_pays 105 = .ok (.goto 4, 3) := by decide +kernel
theorem dL_pays_108 : decode cL_pays 108 = .ok (.iconst 0, 1) := by decide +kernel
theorem dL_pays_109 : decode cL_pays 109 = .ok (.ireturn, 1) := by decide +kernel
theorem dL_pays_110 : decode cL_pays 110 = .ok (.iconst 1, 1) := by decide +kernel
theorem dL_pays_111 : decode cL_pays 111 = .ok (.iload 5, 2) := by decide +kernel
theorem dL_pays_113 : decode cL_pays 113 = .ok (.bipush 6, 2) := by decide +kernel
theorem dL_pays_115 : decode cL_pays 115 = .ok (.irem, 1) := by decide +kernel
theorem dL_pays_116 : decode cL_pays 116 = .ok (.iadd, 1) := by decide +kernel
theorem dL_pays_117 : decode cL_pays 117 = .ok (.aload_n 0, 1) := by decide +kernel
theorem dL_pays_118 : decode cL_pays 118 = .ok (.iload_n 3, 1) := by decide +kernel
theorem dL_pays_119 : decode cL_pays 119 = .ok (.iload 6, 2) := by decide +kernel
theorem dL_pays_121 : decode cL_pays 121 = .ok (.invokevirtual 37, 3) := by decide +kernel
theorem dL_pays_124 : decode cL_pays 124 = .ok (.imul, 1) := by decide +kernel
theorem dL_pays_125 : decode cL_pays 125 = .ok (.istore 8, 2) := by decide +kernel
theorem dL_pays_127 : decode cL_pays 127 = .ok (.aload_n 2, 1) := by decide +kernel
theorem dL_pays_128 : decode cL_pays 128 = .ok (.iload_n 3, 1) := by decide +kernel
theorem dL_pays_129 : decode cL_pays 129 = .ok (.iload 8, 2) := by decide +kernel
theorem dL_pays_131 : decode cL_pays 131 = .ok (.iload 7, 2) := by decide +kernel
theorem dL_pays_133 : decode cL_pays 133 = .ok (.if_icmp .le 8, 3) := by decide +kernel
theorem dL_pays_136 : decode cL_pays 136 = .ok (.iload 8, 2) := by decide +kernel
theorem dL_pays_138 : decode cL_pays 138 = .ok (.goto 5, 3) := by decide +kernel
theorem dL_pays_141 : decode cL_pays 141 = .ok (.iload 7, 2) := by decide +kernel
theorem dL_pays_143 : decode cL_pays 143 = .ok (.iastore, 1) := by decide +kernel
theorem dL_pays_144 : decode cL_pays 144 = .ok (.aload_n 0, 1) := by decide +kernel
theorem dL_pays_145 : decode cL_pays 145 = .ok (.iload_n 3, 1) := by decide +kernel
theorem dL_pays_146 : decode cL_pays 146 = .ok (.iload 6, 2) := by decide +kernel
theorem dL_pays_148 : decode cL_pays 148 = .ok (.iconst 1, 1) := by decide +kernel
theorem dL_pays_149 : decode cL_pays 149 = .ok (.iload 5, 2) := by decide +kernel
theorem dL_pays_151 : decode cL_pays 151 = .ok (.bipush 6, 2) := by decide +kernel
theorem dL_pays_153 : decode cL_pays 153 = .ok (.irem, 1) := by decide +kernel
theorem dL_pays_154 : decode cL_pays 154 = .ok (.iadd, 1) := by decide +kernel
theorem dL_pays_155 : decode cL_pays 155 = .ok (.invokevirtual 69, 3) := by decide +kernel
theorem dL_pays_158 : decode cL_pays 158 = .ok (.aload_n 2, 1) := by decide +kernel
theorem dL_pays_159 : decode cL_pays 159 = .ok (.iload_n 3, 1) := by decide +kernel
theorem dL_pays_160 : decode cL_pays 160 = .ok (.iaload, 1) := by decide +kernel
theorem dL_pays_161 : decode cL_pays 161 = .ok (.iload 7, 2) := by decide +kernel
theorem dL_pays_163 : decode cL_pays 163 = .ok (.isub, 1) := by decide +kernel
theorem dL_pays_164 : decode cL_pays 164 = .ok (.if_icmp .ne 18, 3) := by decide +kernel
theorem dL_pays_167 : decode cL_pays 167 = .ok (.aload_n 0, 1) := by decide +kernel
theorem dL_pays_168 : decode cL_pays 168 = .ok (.iload_n 3, 1) := by decide +kernel
theorem dL_pays_169 : decode cL_pays 169 = .ok (.invokevirtual 62, 3) := by decide +kernel
theorem dL_pays_172 : decode cL_pays 172 = .ok (.aload_n 2, 1) := by decide +kernel
theorem dL_pays_173 : decode cL_pays 173 = .ok (.iload_n 3, 1) := by decide +kernel
theorem dL_pays_174 : decode cL_pays 174 = .ok (.iaload, 1) := by decide +kernel
theorem dL_pays_175 : decode cL_pays 175 = .ok (.if_icmp .ne 7, 3) := by decide +kernel
theorem dL_pays_178 : decode cL_pays 178 = .ok (.iconst 1, 1) := by decide +kernel
theorem dL_pays_179 : decode cL_pays 179 = .ok (.goto 4, 3) := by decide +kernel
theorem dL_pays_182 : decode cL_pays 182 = .ok (.iconst 0, 1) := by decide +kernel
theorem dL_pays_183 : decode cL_pays 183 = .ok (.ireturn, 1) := by decide +kernel
set_option maxRecDepth 20000 in
theorem ggL_isLease_X1_rentOn : GoodIn wsL_isLease wsX1_rentOn := goodIn_ca (goodIn_r _ [5, 6, 7, 8, 4, 9, 10, 11, 12, 13, 14, 15, 16, 17, 18, 19, 20, 21, 22, 23, 24, 25, 26, 27, 28, 29, 30, 31, 32, 33, 34, 35, 36, 37, 38, 39, 40, 41, 42, 43, 44, 45, 46, 47, 48, 49, 50, 51, 52, 53, 54, 55, 56, 98, 99, 100, 101, 102, 103, 104, 105, 106, 107, 108, 109, 110, 111, 112, 113, 114] (by decide +kernel) (by decide +kernel)) (goodIn_sub (fun _ h => List.mem_cons_of_mem _ (List.mem_append_left _ (List.mem_append_right _ h))) (by decide +kernel))
set_option maxRecDepth 20000 in
theorem gL_isLease_X1_rentOn : GoodIn wsL_isLease (wsV RL 37 RX1 yX1_rentOn wsX1_rentOn) := goodIn_app (goodIn_of _ (by decide +kernel)) ggL_isLease_X1_rentOn
set_option maxRecDepth 20000 in
theorem ggL_isLease_X1_leaseOn : GoodIn wsL_isLease wsX1_leaseOn := goodIn_ca (goodIn_r _ [60, 61, 12, 13, 14, 4, 15, 10, 11, 25, 26, 27, 28, 29, 30, 31, 98, 99, 100, 101, 102, 103, 104, 105, 106, 107, 108, 109, 110, 111, 112, 113, 114] (by decide +kernel) (by decide +kernel)) (goodIn_sub (fun _ h => List.mem_cons_of_mem _ (List.mem_append_left _ (List.mem_append_right _ h))) (by decide +kernel))
set_option maxRecDepth 20000 in
theorem gL_isLease_X1_leaseOn : GoodIn wsL_isLease (wsV RL 59 RX1 yX1_leaseOn wsX1_leaseOn) := goodIn_app (goodIn_of _ (by decide +kernel)) ggL_isLease_X1_leaseOn
set_option maxRecDepth 20000 in
theorem ggL_isLease_X1_nextChange : GoodIn wsL_isLease wsX1_nextChange := goodIn_ca (goodIn_r _ [65, 6, 7, 8, 4, 9, 10, 11, 12, 13, 14, 15, 66, 67, 68, 28, 69, 30, 36, 31, 42, 43, 56, 70, 71, 72, 73, 53, 54, 55, 16, 17, 18, 19, 20, 21, 22, 23, 24, 25, 26, 27, 29, 32, 33, 34, 35, 37, 38, 39, 40, 41, 44, 45, 46, 47, 48, 49, 50, 51, 52, 98, 99, 100, 101, 102, 103, 104, 105, 106, 107, 108, 109, 110, 111, 112, 113, 114] (by decide +kernel) (by decide +kernel)) (goodIn_sub (fun _ h => List.mem_cons_of_mem _ (List.mem_append_left _ (List.mem_append_right _ h))) (by decide +kernel))
set_option maxRecDepth 20000 in
theorem gL_isLease_X1_nextChange : GoodIn wsL_isLease (wsV RL 72 RX1 yX1_nextChange wsX1_nextChange) := goodIn_app (goodIn_of _ (by decide +kernel)) ggL_isLease_X1_nextChange
set_option maxRecDepth 20000 in
theorem ggL_isLease_X1_bill : GoodIn wsL_isLease wsX1_bill := goodIn_ca (goodIn_r _ [77, 6, 7, 8, 4, 9, 10, 11, 12, 13, 14, 15, 78, 79, 80, 81, 82, 83, 23, 84, 66, 67, 68, 28, 69, 30, 36, 31, 42, 43, 56, 70, 71, 72, 73, 53, 54, 55, 16, 17, 18, 19, 20, 21, 22, 24, 25, 26, 27, 29, 32, 33, 34, 35, 37, 38, 39, 40, 41, 44, 45, 46, 47, 48, 49, 50, 51, 52, 98, 99, 100, 101, 102, 103, 104, 105, 106, 107, 108, 109, 110, 111, 112, 113, 114] (by decide +kernel) (by decide +kernel)) (goodIn_sub (fun _ h => List.mem_cons_of_mem _ (List.mem_append_left _ (List.mem_append_right _ h))) (by decide +kernel))
set_option maxRecDepth 20000 in
theorem gL_isLease_X1_bill : GoodIn wsL_isLease (wsV RL 75 RX1 yX1_bill wsX1_bill) := goodIn_app (goodIn_of _ (by decide +kernel)) ggL_isLease_X1_bill
set_option maxRecDepth 20000 in
theorem ggL_isLease_X1_billByDays : GoodIn wsL_isLease wsX1_billByDays := goodIn_ca (goodIn_r _ [88, 6, 7, 8, 4, 9, 10, 11, 12, 13, 14, 15, 16, 17, 18, 19, 20, 21, 22, 23, 24, 25, 26, 27, 28, 29, 30, 31, 32, 33, 34, 35, 36, 37, 38, 39, 40, 41, 42, 43, 44, 45, 46, 47, 48, 49, 50, 51, 52, 53, 54, 55, 56, 98, 99, 100, 101, 102, 103, 104, 105, 106, 107, 108, 109, 110, 111, 112, 113, 114] (by decide +kernel) (by decide +kernel)) (goodIn_sub (fun _ h => List.mem_cons_of_mem _ (List.mem_append_left _ (List.mem_append_right _ h))) (by decide +kernel))
set_option maxRecDepth 20000 in
theorem gL_isLease_X1_billByDays : GoodIn wsL_isLease (wsV RL 78 RX1 yX1_billByDays wsX1_billByDays) := goodIn_app (goodIn_of _ (by decide +kernel)) ggL_isLease_X1_billByDays
set_option maxRecDepth 20000 in
theorem ggL_isLease_X1_bills : GoodIn wsL_isLease wsX1_bills := goodIn_ca (goodIn_ca (goodIn_r _ [92, 6, 7, 8, 4, 9, 10, 11, 12, 13, 14, 15, 93, 94, 95, 96, 97, 78, 79, 80, 81, 82, 83, 23, 84, 66, 67, 68, 28, 69, 30, 36, 31, 42, 43, 56, 70, 71, 72, 73, 53, 54, 55, 16, 17, 18, 19, 20, 21, 22, 24, 25, 26, 27, 29, 32, 33, 34, 35, 37, 38, 39, 40, 41, 44, 45, 46, 47, 48, 49, 50, 51, 52, 98, 99, 100, 101, 102, 103, 104, 105, 106, 107, 108, 109, 110, 111, 112, 113, 114] (by decide +kernel) (by decide +kernel)) (goodIn_sub (fun _ h => List.mem_cons_of_mem _ (List.mem_append_left _ (List.mem_append_right _ h))) (by decide +kernel))) (goodIn_sub (fun _ h => List.mem_cons_of_mem _ (List.mem_append_right _ h)) (by decide +kernel))
set_option maxRecDepth 20000 in
theorem gL_isLease_X1_bills : GoodIn wsL_isLease (wsV RL 81 RX1 yX1_bills wsX1_bills) := goodIn_app (goodIn_of _ (by decide +kernel)) ggL_isLease_X1_bills
