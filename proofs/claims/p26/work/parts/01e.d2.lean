theorem dX1_leaseOn_0 : decode cX1_leaseOn 0 = .ok (.iload_n 1, 1) := by decide +kernel
theorem dX1_leaseOn_1 : decode cX1_leaseOn 1 = .ok (.aload_n 0, 1) := by decide +kernel
theorem dX1_leaseOn_2 : decode cX1_leaseOn 2 = .ok (.getfield 9, 3) := by decide +kernel
theorem dX1_leaseOn_5 : decode cX1_leaseOn 5 = .ok (.arraylength, 1) := by decide +kernel
theorem dX1_leaseOn_6 : decode cX1_leaseOn 6 = .ok (.invokestatic 29, 3) := by decide +kernel
theorem dX1_leaseOn_9 : decode cX1_leaseOn 9 = .ok (.iload_n 2, 1) := by decide +kernel
theorem dX1_leaseOn_10 : decode cX1_leaseOn 10 = .ok (.sipush 7200, 3) := by decide +kernel
theorem dX1_leaseOn_13 : decode cX1_leaseOn 13 = .ok (.invokestatic 29, 3) := by decide +kernel
theorem dX1_leaseOn_16 : decode cX1_leaseOn 16 = .ok (.iconst 0, 1) := by decide +kernel
theorem dX1_leaseOn_17 : decode cX1_leaseOn 17 = .ok (.istore_n 3, 1) := by decide +kernel
theorem dX1_leaseOn_18 : decode cX1_leaseOn 18 = .ok (.iload_n 3, 1) := by decide +kernel
theorem dX1_leaseOn_19 : decode cX1_leaseOn 19 = .ok (.aload_n 0, 1) := by decide +kernel
theorem dX1_leaseOn_20 : decode cX1_leaseOn 20 = .ok (.getfield 21, 3) := by decide +kernel
theorem dX1_leaseOn_23 : decode cX1_leaseOn 23 = .ok (.arraylength, 1) := by decide +kernel
theorem dX1_leaseOn_24 : decode cX1_leaseOn 24 = .ok (.if_icmp .ge 42, 3) := by decide +kernel
theorem dX1_leaseOn_27 : decode cX1_leaseOn 27 = .ok (.aload_n 0, 1) := by decide +kernel
theorem dX1_leaseOn_28 : decode cX1_leaseOn 28 = .ok (.getfield 21, 3) := by decide +kernel
theorem dX1_leaseOn_31 : decode cX1_leaseOn 31 = .ok (.iload_n 3, 1) := by decide +kernel
theorem dX1_leaseOn_32 : decode cX1_leaseOn 32 = .ok (.aaload, 1) := by decide +kernel
theorem dX1_leaseOn_33 : decode cX1_leaseOn 33 = .ok (.astore 4, 2) := by decide +kernel
theorem dX1_leaseOn_35 : decode cX1_leaseOn 35 = .ok (.aload 4, 2) := by decide +kernel
theorem dX1_leaseOn_37 : decode cX1_leaseOn 37 = .ok (.ifnull 23, 3) := by decide +kernel
theorem dX1_leaseOn_40 : decode cX1_leaseOn 40 = .ok (.aload 4, 2) := by decide +kernel
theorem dX1_leaseOn_42 : decode cX1_leaseOn 42 = .ok (.getfield 101, 3) := by decide +kernel
theorem dX1_leaseOn_45 : decode cX1_leaseOn 45 = .ok (.iload_n 1, 1) := by decide +kernel
theorem dX1_leaseOn_46 : decode cX1_leaseOn 46 = .ok (.if_icmp .ne 14, 3) := by decide +kernel
theorem dX1_leaseOn_49 : decode cX1_leaseOn 49 = .ok (.aload 4, 2) := by decide +kernel
theorem dX1_leaseOn_51 : decode cX1_leaseOn 51 = .ok (.iload_n 2, 1) := by decide +kernel
theorem dX1_leaseOn_52 : decode cX1_leaseOn 52 = .ok (.invokevirtual 104, 3) := by decide +kernel
theorem dX1_leaseOn_55 : decode cX1_leaseOn 55 = .ok (.ifCond .eq 5, 3) := by decide +kernel
theorem dX1_leaseOn_58 : decode cX1_leaseOn 58 = .ok (.iload_n 3, 1) := by decide +kernel
theorem dX1_leaseOn_59 : decode cX1_leaseOn 59 = .ok (.ireturn, 1) := by decide +kernel
theorem dX1_leaseOn_60 : decode cX1_leaseOn 60 = .ok (.iinc 3 1, 3) := by decide +kernel
theorem dX1_leaseOn_63 : decode cX1_leaseOn 63 = .ok (.goto (-45), 3) := by decide +kernel
theorem dX1_leaseOn_66 : decode cX1_leaseOn 66 = .ok (.iconst (-1), 1) := by decide +kernel
theorem dX1_leaseOn_67 : decode cX1_leaseOn 67 = .ok (.ireturn, 1) := by decide +kernel
set_option maxRecDepth 20000 in
theorem ggX1_rentOn_X1_find : GoodIn wsX1_rentOn wsX1_find := goodIn_ca (goodIn_r _ [5, 6, 7, 8, 9, 10, 4, 11, 53, 54, 55, 56, 57] (by decide +kernel) (by decide +kernel)) (goodIn_sub (fun _ h => List.mem_cons_of_mem _ (List.mem_append_right _ h)) (by decide +kernel))
set_option maxRecDepth 20000 in
theorem gX1_rentOn_X1_find : GoodIn wsX1_rentOn (wsV RX1 55 RX1 yX1_find wsX1_find) := goodIn_app (goodIn_of _ (by decide +kernel)) ggX1_rentOn_X1_find
set_option maxRecDepth 20000 in
theorem ggX1_rentOn_X1_checkNumber : GoodIn wsX1_rentOn wsX1_checkNumber := goodIn_ca (goodIn_r _ [11, 6, 7] (by decide +kernel) (by decide +kernel)) (goodIn_sub (fun _ h => List.mem_cons_of_mem _ (List.mem_append_right _ h)) (by decide +kernel))
set_option maxRecDepth 20000 in
theorem gX1_rentOn_X1_checkNumber : GoodIn wsX1_rentOn (va_wsS RX1 29 yX1_checkNumber wsX1_checkNumber) := goodIn_app (goodIn_of _ (by decide +kernel)) ggX1_rentOn_X1_checkNumber
set_option maxRecDepth 20000 in
theorem ggX1_rentOn_X1_rentFor : GoodIn wsX1_rentOn wsX1_rentFor := goodIn_r _ [15, 16, 17, 18, 19, 20, 21, 22, 23, 24, 25, 26, 27, 28, 29, 30, 31, 32, 33, 34, 35, 36, 37, 38, 39, 40, 41, 42, 4, 43, 44, 45, 46, 47, 48, 49, 50, 51, 52, 53, 54, 55, 56, 57, 58, 59, 60, 61, 62, 63, 64, 65, 66, 67, 68, 69] (by decide +kernel) (by decide +kernel)
set_option maxRecDepth 20000 in
theorem gX1_rentOn_X1_rentFor : GoodIn wsX1_rentOn (wsV RX1 86 RX1 yX1_rentFor wsX1_rentFor) := goodIn_app (goodIn_of _ (by decide +kernel)) ggX1_rentOn_X1_rentFor
theorem dX1_rentOn_0 : decode cX1_rentOn 0 = .ok (.aload_n 0, 1) := by decide +kernel
theorem dX1_rentOn_1 : decode cX1_rentOn 1 = .ok (.iload_n 1, 1) := by decide +kernel
theorem dX1_rentOn_2 : decode cX1_rentOn 2 = .ok (.invokevirtual 55, 3) := by decide +kernel
theorem dX1_rentOn_5 : decode cX1_rentOn 5 = .ok (.astore_n 3, 1) := by decide +kernel
theorem dX1_rentOn_6 : decode cX1_rentOn 6 = .ok (.iload_n 2, 1) := by decide +kernel
theorem dX1_rentOn_7 : decode cX1_rentOn 7 = .ok (.sipush 7200, 3) := by decide +kernel
theorem dX1_rentOn_10 : decode cX1_rentOn 10 = .ok (.invokestatic 29, 3) := by decide +kernel
theorem dX1_rentOn_13 : decode cX1_rentOn 13 = .ok (.aload_n 0, 1) := by decide +kernel
theorem dX1_rentOn_14 : decode cX1_rentOn 14 = .ok (.aload_n 3, 1) := by decide +kernel
theorem dX1_rentOn_15 : decode cX1_rentOn 15 = .ok (.iload_n 2, 1) := by decide +kernel
theorem dX1_rentOn_16 : decode cX1_rentOn 16 = .ok (.invokevirtual 86, 3) := by decide +kernel
theorem dX1_rentOn_19 : decode cX1_rentOn 19 = .ok (.ireturn, 1) := by decide +kernel
set_option maxRecDepth 20000 in
theorem ggX1_bill_X1_find : GoodIn wsX1_bill wsX1_find := goodIn_ca (goodIn_r _ [5, 6, 7, 8, 9, 10, 4, 11, 68, 69, 70, 71, 72] (by decide +kernel) (by decide +kernel)) (goodIn_sub (fun _ h => List.mem_cons_of_mem _ (List.mem_append_right _ h)) (by decide +kernel))
set_option maxRecDepth 20000 in
theorem gX1_bill_X1_find : GoodIn wsX1_bill (wsV RX1 55 RX1 yX1_find wsX1_find) := goodIn_app (goodIn_of _ (by decide +kernel)) ggX1_bill_X1_find
set_option maxRecDepth 20000 in
theorem ggX1_bill_X1_checkNumber : GoodIn wsX1_bill wsX1_checkNumber := goodIn_ca (goodIn_r _ [11, 6, 7] (by decide +kernel) (by decide +kernel)) (goodIn_sub (fun _ h => List.mem_cons_of_mem _ (List.mem_append_right _ h)) (by decide +kernel))
set_option maxRecDepth 20000 in
theorem gX1_bill_X1_checkNumber : GoodIn wsX1_bill (va_wsS RX1 29 yX1_checkNumber wsX1_checkNumber) := goodIn_app (goodIn_of _ (by decide +kernel)) ggX1_bill_X1_checkNumber
set_option maxRecDepth 20000 in
theorem ggX1_bill_X1_billFor : GoodIn wsX1_bill wsX1_billFor := goodIn_r _ [15, 16, 17, 18, 19, 20, 21, 22, 23, 24, 25, 26, 27, 28, 29, 30, 31, 32, 33, 34, 35, 36, 37, 38, 39, 40, 4, 41, 42, 43, 44, 45, 46, 47, 48, 49, 50, 51, 52, 53, 54, 55, 56, 57, 58, 59, 60, 61, 62, 63, 64, 65, 66, 67, 73, 74, 75, 76, 77, 78, 79, 80, 81, 82, 83, 84, 68, 69, 70, 71, 72] (by decide +kernel) (by decide +kernel)
set_option maxRecDepth 20000 in
theorem gX1_bill_X1_billFor : GoodIn wsX1_bill (wsV RX1 108 RX1 yX1_billFor wsX1_billFor) := goodIn_app (goodIn_of _ (by decide +kernel)) ggX1_bill_X1_billFor
theorem dX1_bill_0 : decode cX1_bill 0 = .ok (.aload_n 0, 1) := by decide +kernel
theorem dX1_bill_1 : decode cX1_bill 1 = .ok (.iload_n 1, 1) := by decide +kernel
theorem dX1_bill_2 : decode cX1_bill 2 = .ok (.invokevirtual 55, 3) := by decide +kernel
theorem dX1_bill_5 : decode cX1_bill 5 = .ok (.astore_n 3, 1) := by decide +kernel
theorem dX1_bill_6 : decode cX1_bill 6 = .ok (.iload_n 2, 1) := by decide +kernel
theorem dX1_bill_7 : decode cX1_bill 7 = .ok (.sipush 240, 3) := by decide +kernel
theorem dX1_bill_10 : decode cX1_bill 10 = .ok (.invokestatic 29, 3) := by decide +kernel
theorem dX1_bill_13 : decode cX1_bill 13 = .ok (.aload_n 0, 1) := by decide +kernel
theorem dX1_bill_14 : decode cX1_bill 14 = .ok (.aload_n 3, 1) := by decide +kernel
theorem dX1_bill_15 : decode cX1_bill 15 = .ok (.iload_n 2, 1) := by decide +kernel
theorem dX1_bill_16 : decode cX1_bill 16 = .ok (.invokevirtual 108, 3) := by decide +kernel
theorem dX1_bill_19 : decode cX1_bill 19 = .ok (.ireturn, 1) := by decide +kernel
set_option maxRecDepth 20000 in
theorem ggX1_billByDays_X1_find : GoodIn wsX1_billByDays wsX1_find := goodIn_ca (goodIn_r _ [5, 6, 7, 8, 9, 10, 4, 11, 53, 54, 55, 56, 57] (by decide +kernel) (by decide +kernel)) (goodIn_sub (fun _ h => List.mem_cons_of_mem _ (List.mem_append_right _ h)) (by decide +kernel))
set_option maxRecDepth 20000 in
theorem gX1_billByDays_X1_find : GoodIn wsX1_billByDays (wsV RX1 55 RX1 yX1_find wsX1_find) := goodIn_app (goodIn_of _ (by decide +kernel)) ggX1_billByDays_X1_find
set_option maxRecDepth 20000 in
theorem ggX1_billByDays_X1_checkNumber : GoodIn wsX1_billByDays wsX1_checkNumber := goodIn_ca (goodIn_r _ [11, 6, 7] (by decide +kernel) (by decide +kernel)) (goodIn_sub (fun _ h => List.mem_cons_of_mem _ (List.mem_append_right _ h)) (by decide +kernel))
set_option maxRecDepth 20000 in
theorem gX1_billByDays_X1_checkNumber : GoodIn wsX1_billByDays (va_wsS RX1 29 yX1_checkNumber wsX1_checkNumber) := goodIn_app (goodIn_of _ (by decide +kernel)) ggX1_billByDays_X1_checkNumber
set_option maxRecDepth 20000 in
theorem ggX1_billByDays_X1_rentFor : GoodIn wsX1_billByDays wsX1_rentFor := goodIn_r _ [15, 16, 17, 18, 19, 20, 21, 22, 23, 24, 25, 26, 27, 28, 29, 30, 31, 32, 33, 34, 35, 36, 37, 38, 39, 40, 41, 42, 4, 43, 44, 45, 46, 47, 48, 49, 50, 51, 52, 53, 54, 55, 56, 57, 58, 59, 60, 61, 62, 63, 64, 65, 66, 67, 68, 69] (by decide +kernel) (by decide +kernel)
set_option maxRecDepth 20000 in
theorem gX1_billByDays_X1_rentFor : GoodIn wsX1_billByDays (wsV RX1 86 RX1 yX1_rentFor wsX1_rentFor) := goodIn_app (goodIn_of _ (by decide +kernel)) ggX1_billByDays_X1_rentFor
theorem dX1_billByDays_0 : decode cX1_billByDays 0 = .ok (.aload_n 0, 1) := by decide +kernel
theorem dX1_billByDays_1 : decode cX1_billByDays 1 = .ok (.iload_n 1, 1) := by decide +kernel
theorem dX1_billByDays_2 : decode cX1_billByDays 2 = .ok (.invokevirtual 55, 3) := by decide +kernel
theorem dX1_billByDays_5 : decode cX1_billByDays 5 = .ok (.astore_n 3, 1) := by decide +kernel
theorem dX1_billByDays_6 : decode cX1_billByDays 6 = .ok (.iload_n 2, 1) := by decide +kernel
theorem dX1_billByDays_7 : decode cX1_billByDays 7 = .ok (.sipush 240, 3) := by decide +kernel
theorem dX1_billByDays_10 : decode cX1_billByDays 10 = .ok (.invokestatic 29, 3) := by decide +kernel
theorem dX1_billByDays_13 : decode cX1_billByDays 13 = .ok (.iload_n 2, 1) := by decide +kernel
theorem dX1_billByDays_14 : decode cX1_billByDays 14 = .ok (.bipush 30, 2) := by decide +kernel
theorem dX1_billByDays_16 : decode cX1_billByDays 16 = .ok (.imul, 1) := by decide +kernel
theorem dX1_billByDays_17 : decode cX1_billByDays 17 = .ok (.istore 4, 2) := by decide +kernel
theorem dX1_billByDays_19 : decode cX1_billByDays 19 = .ok (.iconst 0, 1) := by decide +kernel
theorem dX1_billByDays_20 : decode cX1_billByDays 20 = .ok (.istore 5, 2) := by decide +kernel
theorem dX1_billByDays_22 : decode cX1_billByDays 22 = .ok (.iload 4, 2) := by decide +kernel
theorem dX1_billByDays_24 : decode cX1_billByDays 24 = .ok (.istore 6, 2) := by decide +kernel
theorem dX1_billByDays_26 : decode cX1_billByDays 26 = .ok (.iload 6, 2) := by decide +kernel
theorem dX1_billByDays_28 : decode cX1_billByDays 28 = .ok (.iload 4, 2) := by decide +kernel
theorem dX1_billByDays_30 : decode cX1_billByDays 30 = .ok (.bipush 30, 2) := by decide +kernel
theorem dX1_billByDays_32 : decode cX1_billByDays 32 = .ok (.iadd, 1) := by decide +kernel
theorem dX1_billByDays_33 : decode cX1_billByDays 33 = .ok (.if_icmp .ge 21, 3) := by decide +kernel
theorem dX1_billByDays_36 : decode cX1_billByDays 36 = .ok (.iload 5, 2) := by decide +kernel
theorem dX1_billByDays_38 : decode cX1_billByDays 38 = .ok (.aload_n 0, 1) := by decide +kernel
theorem dX1_billByDays_39 : decode cX1_billByDays 39 = .ok (.aload_n 3, 1) := by decide +kernel
theorem dX1_billByDays_40 : decode cX1_billByDays 40 = .ok (.iload 6, 2) := by decide +kernel
theorem dX1_billByDays_42 : decode cX1_billByDays 42 = .ok (.invokevirtual 86, 3) := by decide +kernel
theorem dX1_billByDays_45 : decode cX1_billByDays 45 = .ok (.iadd, 1) := by decide +kernel
theorem dX1_billByDays_46 : decode cX1_billByDays 46 = .ok (.istore 5, 2) := by decide +kernel
theorem dX1_billByDays_48 : decode cX1_billByDays 48 = .ok (.iinc 6 1, 3) := by decide +kernel
theorem dX1_billByDays_51 : decode cX1_billByDays 51 = .ok (.goto (-25), 3) := by decide +kernel
theorem dX1_billByDays_54 : decode cX1_billByDays 54 = .ok (.iload 5, 2) := by decide +kernel
theorem dX1_billByDays_56 : decode cX1_billByDays 56 = .ok (.bipush 30, 2) := by decide +kernel
theorem dX1_billByDays_58 : decode cX1_billByDays 58 = .ok (.idiv, 1) := by decide +kernel
theorem dX1_billByDays_59 : decode cX1_billByDays 59 = .ok (.ireturn, 1) := by decide +kernel
set_option maxRecDepth 20000 in
theorem ggX1_bills_X1_find : GoodIn wsX1_bills wsX1_find := goodIn_ca (goodIn_r _ [5, 6, 7, 8, 9, 10, 4, 11, 73, 74, 75, 76, 77] (by decide +kernel) (by decide +kernel)) (goodIn_sub (fun _ h => List.mem_cons_of_mem _ (List.mem_append_left _ (List.mem_append_right _ h))) (by decide +kernel))
set_option maxRecDepth 20000 in
theorem gX1_bills_X1_find : GoodIn wsX1_bills (wsV RX1 55 RX1 yX1_find wsX1_find) := goodIn_app (goodIn_of _ (by decide +kernel)) ggX1_bills_X1_find
set_option maxRecDepth 20000 in
theorem ggX1_bills_X1_checkNumber : GoodIn wsX1_bills wsX1_checkNumber := goodIn_ca (goodIn_r _ [11, 6, 7] (by decide +kernel) (by decide +kernel)) (goodIn_sub (fun _ h => List.mem_cons_of_mem _ (List.mem_append_left _ (List.mem_append_right _ h))) (by decide +kernel))
set_option maxRecDepth 20000 in
theorem gX1_bills_X1_checkNumber : GoodIn wsX1_bills (va_wsS RX1 29 yX1_checkNumber wsX1_checkNumber) := goodIn_app (goodIn_of _ (by decide +kernel)) ggX1_bills_X1_checkNumber
set_option maxRecDepth 20000 in
theorem ggX1_bills_X1_checkRange : GoodIn wsX1_bills wsX1_checkRange := goodIn_ca (goodIn_r _ [14, 15, 16] (by decide +kernel) (by decide +kernel)) (goodIn_sub (fun _ h => List.mem_cons_of_mem _ (List.mem_append_right _ h)) (by decide +kernel))
set_option maxRecDepth 20000 in
theorem gX1_bills_X1_checkRange : GoodIn wsX1_bills (va_wsS RX1 33 yX1_checkRange wsX1_checkRange) := goodIn_app (goodIn_of _ (by decide +kernel)) ggX1_bills_X1_checkRange
set_option maxRecDepth 20000 in
theorem ggX1_bills_X1_billFor : GoodIn wsX1_bills wsX1_billFor := goodIn_r _ [20, 21, 22, 23, 24, 25, 26, 27, 28, 29, 30, 31, 32, 33, 34, 35, 36, 37, 38, 39, 40, 41, 42, 43, 44, 45, 4, 46, 47, 48, 49, 50, 51, 52, 53, 54, 55, 56, 57, 58, 59, 60, 61, 62, 63, 64, 65, 66, 67, 68, 69, 70, 71, 72, 78, 79, 80, 81, 82, 83, 84, 85, 86, 87, 88, 89, 73, 74, 75, 76, 77] (by decide +kernel) (by decide +kernel)
set_option maxRecDepth 20000 in
theorem gX1_bills_X1_billFor : GoodIn wsX1_bills (wsV RX1 108 RX1 yX1_billFor wsX1_billFor) := goodIn_app (goodIn_of _ (by decide +kernel)) ggX1_bills_X1_billFor
theorem dX1_bills_0 : decode cX1_bills 0 = .ok (.aload_n 0, 1) := by decide +kernel
theorem dX1_bills_1 : decode cX1_bills 1 = .ok (.iload_n 1, 1) := by decide +kernel
theorem dX1_bills_2 : decode cX1_bills 2 = .ok (.invokevirtual 55, 3) := by decide +kernel
theorem dX1_bills_5 : decode cX1_bills 5 = .ok (.astore 4, 2) := by decide +kernel
theorem dX1_bills_7 : decode cX1_bills 7 = .ok (.iload_n 2, 1) := by decide +kernel
theorem dX1_bills_8 : decode cX1_bills 8 = .ok (.sipush 240, 3) := by decide +kernel
theorem dX1_bills_11 : decode cX1_bills 11 = .ok (.invokestatic 29, 3) := by decide +kernel
theorem dX1_bills_14 : decode cX1_bills 14 = .ok (.iload_n 3, 1) := by decide +kernel
theorem dX1_bills_15 : decode cX1_bills 15 = .ok (.sipush 240, 3) := by decide +kernel
theorem dX1_bills_18 : decode cX1_bills 18 = .ok (.invokestatic 29, 3) := by decide +kernel
theorem dX1_bills_21 : decode cX1_bills 21 = .ok (.iload_n 3, 1) := by decide +kernel
theorem dX1_bills_22 : decode cX1_bills 22 = .ok (.iload_n 2, 1) := by decide +kernel
theorem dX1_bills_23 : decode cX1_bills 23 = .ok (.sipush 239, 3) := by decide +kernel
theorem dX1_bills_26 : decode cX1_bills 26 = .ok (.invokestatic 33, 3) := by decide +kernel
theorem dX1_bills_29 : decode cX1_bills 29 = .ok (.lconst 0, 1) := by decide +kernel
theorem dX1_bills_30 : decode cX1_bills 30 = .ok (.lstore 5, 2) := by decide +kernel
theorem dX1_bills_32 : decode cX1_bills 32 = .ok (.iload_n 2, 1) := by decide +kernel
theorem dX1_bills_33 : decode cX1_bills 33 = .ok (.istore 7, 2) := by decide +kernel
theorem dX1_bills_35 : decode cX1_bills 35 = .ok (.iload 7, 2) := by decide +kernel
theorem dX1_bills_37 : decode cX1_bills 37 = .ok (.iload_n 3, 1) := by decide +kernel
theorem dX1_bills_38 : decode cX1_bills 38 = .ok (.if_icmp .gt 23, 3) := by decide +kernel
theorem dX1_bills_41 : decode cX1_bills 41 = .ok (.lload 5, 2) := by decide +kernel
theorem dX1_bills_43 : decode cX1_bills 43 = .ok (.aload_n 0, 1) := by decide +kernel
theorem dX1_bills_44 : decode cX1_bills 44 = .ok (.aload 4, 2) := by decide +kernel
theorem dX1_bills_46 : decode cX1_bills 46 = .ok (.iload 7, 2) := by decide +kernel
theorem dX1_bills_48 : decode cX1_bills 48 = .ok (.invokevirtual 108, 3) := by decide +kernel
theorem dX1_bills_51 : decode cX1_bills 51 = .ok (.i2l, 1) := by decide +kernel
theorem dX1_bills_52 : decode cX1_bills 52 = .ok (.ladd, 1) := by decide +kernel
theorem dX1_bills_53 : decode cX1_bills 53 = .ok (.lstore 5, 2) := by decide +kernel
theorem dX1_bills_55 : decode cX1_bills 55 = .ok (.iinc 7 1, 3) := by decide +kernel
theorem dX1_bills_58 : decode cX1_bills 58 = .ok (.goto (-23), 3) := by decide +kernel
theorem dX1_bills_61 : decode cX1_bills 61 = .ok (.lload 5, 2) := by decide +kernel
theorem dX1_bills_63 : decode cX1_bills 63 = .ok (.lreturn, 1) := by decide +kernel
set_option maxRecDepth 20000 in
theorem ggX1_nextChange_X1_find : GoodIn wsX1_nextChange wsX1_find := goodIn_ca (goodIn_r _ [5, 6, 7, 8, 9, 10, 4, 11, 61, 62, 63, 64, 65] (by decide +kernel) (by decide +kernel)) (goodIn_sub (fun _ h => List.mem_cons_of_mem _ (List.mem_append_right _ h)) (by decide +kernel))
set_option maxRecDepth 20000 in
theorem gX1_nextChange_X1_find : GoodIn wsX1_nextChange (wsV RX1 55 RX1 yX1_find wsX1_find) := goodIn_app (goodIn_of _ (by decide +kernel)) ggX1_nextChange_X1_find
set_option maxRecDepth 20000 in
theorem ggX1_nextChange_X1_checkNumber : GoodIn wsX1_nextChange wsX1_checkNumber := goodIn_ca (goodIn_r _ [11, 6, 7] (by decide +kernel) (by decide +kernel)) (goodIn_sub (fun _ h => List.mem_cons_of_mem _ (List.mem_append_right _ h)) (by decide +kernel))
set_option maxRecDepth 20000 in
theorem gX1_nextChange_X1_checkNumber : GoodIn wsX1_nextChange (va_wsS RX1 29 yX1_checkNumber wsX1_checkNumber) := goodIn_app (goodIn_of _ (by decide +kernel)) ggX1_nextChange_X1_checkNumber
set_option maxRecDepth 20000 in
theorem ggX1_nextChange_X0_nextTurn : GoodIn wsX1_nextChange wsX0_nextTurn := goodIn_r _ [16, 17, 18, 19, 20, 21, 22, 23, 24, 15, 25, 26, 27, 28, 29, 66, 67, 68, 69, 70, 71, 72, 73, 74, 75, 76, 77] (by decide +kernel) (by decide +kernel)
set_option maxRecDepth 20000 in
theorem gX1_nextChange_X0_nextTurn : GoodIn wsX1_nextChange (wsV RX1 111 RX0 yX0_nextTurn wsX0_nextTurn) := goodIn_app (goodIn_of _ (by decide +kernel)) ggX1_nextChange_X0_nextTurn
set_option maxRecDepth 20000 in
theorem ggX1_nextChange_X1_rentFor : GoodIn wsX1_nextChange wsX1_rentFor := goodIn_r _ [33, 34, 35, 36, 37, 38, 39, 40, 41, 15, 42, 17, 19, 43, 44, 45, 46, 18, 47, 48, 49, 50, 51, 20, 21, 52, 53, 54, 4, 55, 56, 57, 58, 59, 60, 27, 28, 29, 22, 61, 62, 63, 64, 65, 66, 67, 68, 69, 70, 71, 72, 73, 74, 75, 76, 77] (by decide +kernel) (by decide +kernel)
set_option maxRecDepth 20000 in
theorem gX1_nextChange_X1_rentFor : GoodIn wsX1_nextChange (wsV RX1 86 RX1 yX1_rentFor wsX1_rentFor) := goodIn_app (goodIn_of _ (by decide +kernel)) ggX1_nextChange_X1_rentFor
theorem dX1_nextChange_0 : decode cX1_nextChange 0 = .ok (.aload_n 0, 1) := by decide +kernel
theorem dX1_nextChange_1 : decode cX1_nextChange 1 = .ok (.iload_n 1, 1) := by decide +kernel
theorem dX1_nextChange_2 : decode cX1_nextChange 2 = .ok (.invokevirtual 55, 3) := by decide +kernel
theorem dX1_nextChange_5 : decode cX1_nextChange 5 = .ok (.astore_n 3, 1) := by decide +kernel
theorem dX1_nextChange_6 : decode cX1_nextChange 6 = .ok (.iload_n 2, 1) := by decide +kernel
theorem dX1_nextChange_7 : decode cX1_nextChange 7 = .ok (.sipush 7200, 3) := by decide +kernel
theorem dX1_nextChange_10 : decode cX1_nextChange 10 = .ok (.invokestatic 29, 3) := by decide +kernel
theorem dX1_nextChange_13 : decode cX1_nextChange 13 = .ok (.aload_n 3, 1) := by decide +kernel
theorem dX1_nextChange_14 : decode cX1_nextChange 14 = .ok (.iload_n 2, 1) := by decide +kernel
theorem dX1_nextChange_15 : decode cX1_nextChange 15 = .ok (.invokevirtual 111, 3) := by decide +kernel
theorem dX1_nextChange_18 : decode cX1_nextChange 18 = .ok (.istore 4, 2) := by decide +kernel
theorem dX1_nextChange_20 : decode cX1_nextChange 20 = .ok (.iconst 0, 1) := by decide +kernel
theorem dX1_nextChange_21 : decode cX1_nextChange 21 = .ok (.istore 5, 2) := by decide +kernel
theorem dX1_nextChange_23 : decode cX1_nextChange 23 = .ok (.iload 5, 2) := by decide +kernel
theorem dX1_nextChange_25 : decode cX1_nextChange 25 = .ok (.sipush 7200, 3) := by decide +kernel
theorem dX1_nextChange_28 : decode cX1_nextChange 28 = .ok (.if_icmp .ge 47, 3) := by decide +kernel
theorem dX1_nextChange_31 : decode cX1_nextChange 31 = .ok (.iload 4, 2) := by decide +kernel
theorem dX1_nextChange_33 : decode cX1_nextChange 33 = .ok (.sipush 7200, 3) := by decide +kernel
theorem dX1_nextChange_36 : decode cX1_nextChange 36 = .ok (.if_icmp .ge 39, 3) := by decide +kernel
theorem dX1_nextChange_39 : decode cX1_nextChange 39 = .ok (.aload_n 0, 1) := by decide +kernel
theorem dX1_nextChange_40 : decode cX1_nextChange 40 = .ok (.aload_n 3, 1) := by decide +kernel
theorem dX1_nextChange_41 : decode cX1_nextChange 41 = .ok (.iload 4, 2) := by decide +kernel
theorem dX1_nextChange_43 : decode cX1_nextChange 43 = .ok (.invokevirtual 86, 3) := by decide +kernel
theorem dX1_nextChange_46 : decode cX1_nextChange 46 = .ok (.aload_n 0, 1) := by decide +kernel
theorem dX1_nextChange_47 : decode cX1_nextChange 47 = .ok (.aload_n 3, 1) := by decide +kernel
theorem dX1_nextChange_48 : decode cX1_nextChange 48 = .ok (.iload 4, 2) := by decide +kernel
theorem dX1_nextChange_50 : decode cX1_nextChange 50 = .ok (.iconst 1, 1) := by decide +kernel
theorem dX1_nextChange_51 : decode cX1_nextChange 51 = .ok (.isub, 1) := by decide +kernel
theorem dX1_nextChange_52 : decode cX1_nextChange 52 = .ok (.invokevirtual 86, 3) := by decide +kernel
theorem dX1_nextChange_55 : decode cX1_nextChange 55 = .ok (.if_icmp .eq 6, 3) := by decide +kernel
theorem dX1_nextChange_58 : decode cX1_nextChange 58 = .ok (.iload 4, 2) := by decide +kernel
theorem dX1_nextChange_60 : decode cX1_nextChange 60 = .ok (.ireturn, 1) := by decide +kernel
theorem dX1_nextChange_61 : decode cX1_nextChange 61 = .ok (.aload_n 3, 1) := by decide +kernel
theorem dX1_nextChange_62 : decode cX1_nextChange 62 = .ok (.iload 4, 2) := by decide +kernel
theorem dX1_nextChange_64 : decode cX1_nextChange 64 = .ok (.invokevirtual 111, 3) := by decide +kernel
theorem dX1_nextChange_67 : decode cX1_nextChange 67 = .ok (.istore 4, 2) := by decide +kernel
theorem dX1_nextChange_69 : decode cX1_nextChange 69 = .ok (.iinc 5 1, 3) := by decide +kernel
theorem dX1_nextChange_72 : decode cX1_nextChange 72 = .ok (.goto (-49), 3) := by decide +kernel
theorem dX1_nextChange_75 : decode cX1_nextChange 75 = .ok (.iconst (-1), 1) := by decide +kernel
theorem dX1_nextChange_76 : decode cX1_nextChange 76 = .ok (.ireturn, 1) := by decide +kernel
set_option maxRecDepth 20000 in
theorem ggX1_voids_X1_checkNumber : GoodIn wsX1_voids wsX1_checkNumber := goodIn_ca (goodIn_r _ [5, 6, 7] (by decide +kernel) (by decide +kernel)) (goodIn_sub (fun _ h => List.mem_cons_of_mem _ (List.mem_append_right _ h)) (by decide +kernel))
set_option maxRecDepth 20000 in
theorem gX1_voids_X1_checkNumber : GoodIn wsX1_voids (va_wsS RX1 29 yX1_checkNumber wsX1_checkNumber) := goodIn_app (goodIn_of _ (by decide +kernel)) ggX1_voids_X1_checkNumber
set_option maxRecDepth 20000 in
theorem ggX1_voids_X1_daysLet : GoodIn wsX1_voids wsX1_daysLet := goodIn_r _ [11, 12, 13, 14, 15, 16, 17, 18, 19, 20, 21, 22, 23, 24, 25, 26, 27, 28, 29, 30, 31, 32, 33, 34, 35, 36, 37, 38, 39, 40, 41, 42, 43] (by decide +kernel) (by decide +kernel)
set_option maxRecDepth 20000 in
theorem gX1_voids_X1_daysLet : GoodIn wsX1_voids (wsV RX1 46 RX1 yX1_daysLet wsX1_daysLet) := goodIn_app (goodIn_of _ (by decide +kernel)) ggX1_voids_X1_daysLet
theorem dX1_voids_0 : decode cX1_voids 0 = .ok (.iload_n 1, 1) := by decide +kernel
theorem dX1_voids_1 : decode cX1_voids 1 = .ok (.aload_n 0, 1) := by decide +kernel
theorem dX1_voids_2 : decode cX1_voids 2 = .ok (.getfield 9, 3) := by decide +kernel
theorem dX1_voids_5 : decode cX1_voids 5 = .ok (.arraylength, 1) := by decide +kernel
theorem dX1_voids_6 : decode cX1_voids 6 = .ok (.invokestatic 29, 3) := by decide +kernel
theorem dX1_voids_9 : decode cX1_voids 9 = .ok (.iload_n 2, 1) := by decide +kernel
theorem dX1_voids_10 : decode cX1_voids 10 = .ok (.bipush 20, 2) := by decide +kernel
theorem dX1_voids_12 : decode cX1_voids 12 = .ok (.invokestatic 29, 3) := by decide +kernel
theorem dX1_voids_15 : decode cX1_voids 15 = .ok (.iload_n 2, 1) := by decide +kernel
theorem dX1_voids_16 : decode cX1_voids 16 = .ok (.sipush 360, 3) := by decide +kernel
theorem dX1_voids_19 : decode cX1_voids 19 = .ok (.imul, 1) := by decide +kernel
theorem dX1_voids_20 : decode cX1_voids 20 = .ok (.istore_n 3, 1) := by decide +kernel
theorem dX1_voids_21 : decode cX1_voids 21 = .ok (.sipush 360, 3) := by decide +kernel
theorem dX1_voids_24 : decode cX1_voids 24 = .ok (.aload_n 0, 1) := by decide +kernel
theorem dX1_voids_25 : decode cX1_voids 25 = .ok (.iload_n 1, 1) := by decide +kernel
theorem dX1_voids_26 : decode cX1_voids 26 = .ok (.iload_n 3, 1) := by decide +kernel
theorem dX1_voids_27 : decode cX1_voids 27 = .ok (.iload_n 3, 1) := by decide +kernel
theorem dX1_voids_28 : decode cX1_voids 28 = .ok (.sipush 360, 3) := by decide +kernel
theorem dX1_voids_31 : decode cX1_voids 31 = .ok (.iadd, 1) := by decide +kernel
theorem dX1_voids_32 : decode cX1_voids 32 = .ok (.invokevirtual 46, 3) := by decide +kernel
theorem dX1_voids_35 : decode cX1_voids 35 = .ok (.isub, 1) := by decide +kernel
theorem dX1_voids_36 : decode cX1_voids 36 = .ok (.ireturn, 1) := by decide +kernel
set_option maxRecDepth 20000 in
theorem ggX1_part_X1_find : GoodIn wsX1_part wsX1_find := goodIn_ca (goodIn_r _ [6, 7, 8, 9, 10, 11, 5, 12, 45, 46, 47, 48, 49] (by decide +kernel) (by decide +kernel)) (goodIn_sub (fun _ h => List.mem_cons_of_mem _ (List.mem_append_right _ h)) (by decide +kernel))
set_option maxRecDepth 20000 in
theorem gX1_part_X1_find : GoodIn wsX1_part (wsV RX1 55 RX1 yX1_find wsX1_find) := goodIn_app (goodIn_of _ (by decide +kernel)) ggX1_part_X1_find
set_option maxRecDepth 20000 in
theorem ggX1_part_X1_checkNumber : GoodIn wsX1_part wsX1_checkNumber := goodIn_ca (goodIn_r _ [12, 7, 8] (by decide +kernel) (by decide +kernel)) (goodIn_sub (fun _ h => List.mem_cons_of_mem _ (List.mem_append_right _ h)) (by decide +kernel))
set_option maxRecDepth 20000 in
theorem gX1_part_X1_checkNumber : GoodIn wsX1_part (va_wsS RX1 29 yX1_checkNumber wsX1_checkNumber) := goodIn_app (goodIn_of _ (by decide +kernel)) ggX1_part_X1_checkNumber
set_option maxRecDepth 20000 in
theorem ggX1_part_X1_partOf : GoodIn wsX1_part wsX1_partOf := goodIn_r _ [16, 17, 18, 19, 20, 21, 22, 23, 24, 25, 5, 26, 27, 28, 29, 30, 31, 32, 33, 34, 35, 36, 37, 38, 39, 40, 41, 42, 43, 44, 45, 46, 47, 48, 49, 50, 51, 52, 53, 54, 55, 56, 57, 58, 59, 60, 61] (by decide +kernel) (by decide +kernel)
set_option maxRecDepth 20000 in
theorem gX1_part_X1_partOf : GoodIn wsX1_part (wsV RX1 115 RX1 yX1_partOf wsX1_partOf) := goodIn_app (goodIn_of _ (by decide +kernel)) ggX1_part_X1_partOf
theorem dX1_part_0 : decode cX1_part 0 = .ok (.aload_n 0, 1) := by decide +kernel
theorem dX1_part_1 : decode cX1_part 1 = .ok (.iload_n 1, 1) := by decide +kernel
theorem dX1_part_2 : decode cX1_part 2 = .ok (.invokevirtual 55, 3) := by decide +kernel
theorem dX1_part_5 : decode cX1_part 5 = .ok (.astore_n 3, 1) := by decide +kernel
theorem dX1_part_6 : decode cX1_part 6 = .ok (.iload_n 2, 1) := by decide +kernel
theorem dX1_part_7 : decode cX1_part 7 = .ok (.aload_n 0, 1) := by decide +kernel
theorem dX1_part_8 : decode cX1_part 8 = .ok (.getfield 16, 3) := by decide +kernel
theorem dX1_part_11 : decode cX1_part 11 = .ok (.arraylength, 1) := by decide +kernel
theorem dX1_part_12 : decode cX1_part 12 = .ok (.invokestatic 29, 3) := by decide +kernel
theorem dX1_part_15 : decode cX1_part 15 = .ok (.aload_n 0, 1) := by decide +kernel
theorem dX1_part_16 : decode cX1_part 16 = .ok (.aload_n 3, 1) := by decide +kernel
theorem dX1_part_17 : decode cX1_part 17 = .ok (.iload_n 2, 1) := by decide +kernel
theorem dX1_part_18 : decode cX1_part 18 = .ok (.aload_n 0, 1) := by decide +kernel
theorem dX1_part_19 : decode cX1_part 19 = .ok (.getfield 16, 3) := by decide +kernel
theorem dX1_part_22 : decode cX1_part 22 = .ok (.iload_n 2, 1) := by decide +kernel
theorem dX1_part_23 : decode cX1_part 23 = .ok (.iaload, 1) := by decide +kernel
theorem dX1_part_24 : decode cX1_part 24 = .ok (.invokevirtual 115, 3) := by decide +kernel
theorem dX1_part_27 : decode cX1_part 27 = .ok (.ireturn, 1) := by decide +kernel
set_option maxRecDepth 20000 in
theorem ggX1_owners_X1_checkNumber : GoodIn wsX1_owners wsX1_checkNumber := goodIn_ca (goodIn_r _ [6, 7, 8] (by decide +kernel) (by decide +kernel)) (goodIn_sub (fun _ h => List.mem_cons_of_mem _ (List.mem_append_right _ h)) (by decide +kernel))
set_option maxRecDepth 20000 in
theorem gX1_owners_X1_checkNumber : GoodIn wsX1_owners (va_wsS RX1 29 yX1_checkNumber wsX1_checkNumber) := goodIn_app (goodIn_of _ (by decide +kernel)) ggX1_owners_X1_checkNumber
set_option maxRecDepth 20000 in
theorem ggX1_owners_X1_partOf : GoodIn wsX1_owners wsX1_partOf := goodIn_r _ [12, 13, 14, 15, 16, 17, 18, 19, 20, 21, 5, 22, 23, 24, 25, 26, 27, 28, 29, 30, 31, 32, 33, 34, 35, 36, 37, 38, 39, 40, 41, 42, 43, 44, 45, 46, 47, 48, 49, 50, 51, 52, 53, 54, 55, 56, 57] (by decide +kernel) (by decide +kernel)
set_option maxRecDepth 20000 in
theorem gX1_owners_X1_partOf : GoodIn wsX1_owners (wsV RX1 115 RX1 yX1_partOf wsX1_partOf) := goodIn_app (goodIn_of _ (by decide +kernel)) ggX1_owners_X1_partOf
theorem dX1_owners_0 : decode cX1_owners 0 = .ok (.iload_n 1, 1) := by decide +kernel
theorem dX1_owners_1 : decode cX1_owners 1 = .ok (.aload_n 0, 1) := by decide +kernel
theorem dX1_owners_2 : decode cX1_owners 2 = .ok (.getfield 16, 3) := by decide +kernel
theorem dX1_owners_5 : decode cX1_owners 5 = .ok (.arraylength, 1) := by decide +kernel
theorem dX1_owners_6 : decode cX1_owners 6 = .ok (.invokestatic 29, 3) := by decide +kernel
theorem dX1_owners_9 : decode cX1_owners 9 = .ok (.aload_n 0, 1) := by decide +kernel
theorem dX1_owners_10 : decode cX1_owners 10 = .ok (.getfield 16, 3) := by decide +kernel
theorem dX1_owners_13 : decode cX1_owners 13 = .ok (.iload_n 1, 1) := by decide +kernel
theorem dX1_owners_14 : decode cX1_owners 14 = .ok (.iaload, 1) := by decide +kernel
theorem dX1_owners_15 : decode cX1_owners 15 = .ok (.istore_n 2, 1) := by decide +kernel
theorem dX1_owners_16 : decode cX1_owners 16 = .ok (.aload_n 0, 1) := by decide +kernel
theorem dX1_owners_17 : decode cX1_owners 17 = .ok (.getfield 21, 3) := by decide +kernel
theorem dX1_owners_20 : decode cX1_owners 20 = .ok (.astore_n 3, 1) := by decide +kernel
theorem dX1_owners_21 : decode cX1_owners 21 = .ok (.aload_n 3, 1) := by decide +kernel
theorem dX1_owners_22 : decode cX1_owners 22 = .ok (.arraylength, 1) := by decide +kernel
theorem dX1_owners_23 : decode cX1_owners 23 = .ok (.istore 4, 2) := by decide +kernel
theorem dX1_owners_25 : decode cX1_owners 25 = .ok (.iconst 0, 1) := by decide +kernel
theorem dX1_owners_26 : decode cX1_owners 26 = .ok (.istore 5, 2) := by decide +kernel
theorem dX1_owners_28 : decode cX1_owners 28 = .ok (.iload 5, 2) := by decide +kernel
theorem dX1_owners_30 : decode cX1_owners 30 = .ok (.iload 4, 2) := by decide +kernel
theorem dX1_owners_32 : decode cX1_owners 32 = .ok (.if_icmp .ge 36, 3) := by decide +kernel
theorem dX1_owners_35 : decode cX1_owners 35 = .ok (.aload_n 3, 1) := by decide +kernel
theorem dX1_owners_36 : decode cX1_owners 36 = .ok (.iload 5, 2) := by decide +kernel
theorem dX1_owners_38 : decode cX1_owners 38 = .ok (.aaload, 1) := by decide +kernel
theorem dX1_owners_39 : decode cX1_owners 39 = .ok (.astore 6, 2) := by decide +kernel
theorem dX1_owners_41 : decode cX1_owners 41 = .ok (.aload 6, 2) := by decide +kernel
theorem dX1_owners_43 : decode cX1_owners 43 = .ok (.ifnull 19, 3) := by decide +kernel
theorem dX1_owners_46 : decode cX1_owners 46 = .ok (.iload_n 2, 1) := by decide +kernel
theorem dX1_owners_47 : decode cX1_owners 47 = .ok (.aload_n 0, 1) := by decide +kernel
theorem dX1_owners_48 : decode cX1_owners 48 = .ok (.aload 6, 2) := by decide +kernel
theorem dX1_owners_50 : decode cX1_owners 50 = .ok (.iload_n 1, 1) := by decide +kernel
theorem dX1_owners_51 : decode cX1_owners 51 = .ok (.aload_n 0, 1) := by decide +kernel
theorem dX1_owners_52 : decode cX1_owners 52 = .ok (.getfield 16, 3) := by decide +kernel
theorem dX1_owners_55 : decode cX1_owners 55 = .ok (.iload_n 1, 1) := by decide +kernel
theorem dX1_owners_56 : decode cX1_owners 56 = .ok (.iaload, 1) := by decide +kernel
theorem dX1_owners_57 : decode cX1_owners 57 = .ok (.invokevirtual 115, 3) := by decide +kernel
theorem dX1_owners_60 : decode cX1_owners 60 = .ok (.isub, 1) := by decide +kernel
theorem dX1_owners_61 : decode cX1_owners 61 = .ok (.istore_n 2, 1) := by decide +kernel
theorem dX1_owners_62 : decode cX1_owners 62 = .ok (.iinc 5 1, 3) := by decide +kernel
theorem dX1_owners_65 : decode cX1_owners 65 = .ok (.goto (-37), 3) := by decide +kernel
theorem dX1_owners_68 : decode cX1_owners 68 = .ok (.iload_n 2, 1) := by decide +kernel
theorem dX1_owners_69 : decode cX1_owners 69 = .ok (.ireturn, 1) := by decide +kernel
set_option maxRecDepth 20000 in
theorem ggX1_balance_X1_find : GoodIn wsX1_balance wsX1_find := goodIn_ca (goodIn_r _ [6, 7, 8, 9, 10, 11, 5, 12, 45, 46, 47, 48, 49] (by decide +kernel) (by decide +kernel)) (goodIn_sub (fun _ h => List.mem_cons_of_mem _ (List.mem_append_right _ h)) (by decide +kernel))
set_option maxRecDepth 20000 in
theorem gX1_balance_X1_find : GoodIn wsX1_balance (wsV RX1 55 RX1 yX1_find wsX1_find) := goodIn_app (goodIn_of _ (by decide +kernel)) ggX1_balance_X1_find
set_option maxRecDepth 20000 in
theorem ggX1_balance_X1_checkNumber : GoodIn wsX1_balance wsX1_checkNumber := goodIn_ca (goodIn_r _ [12, 7, 8] (by decide +kernel) (by decide +kernel)) (goodIn_sub (fun _ h => List.mem_cons_of_mem _ (List.mem_append_right _ h)) (by decide +kernel))
set_option maxRecDepth 20000 in
theorem gX1_balance_X1_checkNumber : GoodIn wsX1_balance (va_wsS RX1 29 yX1_checkNumber wsX1_checkNumber) := goodIn_app (goodIn_of _ (by decide +kernel)) ggX1_balance_X1_checkNumber
set_option maxRecDepth 20000 in
theorem ggX1_balance_X0_daysIn : GoodIn wsX1_balance wsX0_daysIn := goodIn_r _ [17, 18, 19, 20, 16, 21, 22, 23, 24, 25, 26, 27, 28, 29, 30, 50, 51, 52, 53, 54, 55, 56, 57, 58, 59, 60, 61] (by decide +kernel) (by decide +kernel)
set_option maxRecDepth 20000 in
theorem gX1_balance_X0_daysIn : GoodIn wsX1_balance (wsV RX1 119 RX0 yX0_daysIn wsX0_daysIn) := goodIn_app (goodIn_of _ (by decide +kernel)) ggX1_balance_X0_daysIn
set_option maxRecDepth 20000 in
theorem ggX1_balance_X1_partOf : GoodIn wsX1_balance wsX1_partOf := goodIn_r _ [34, 35, 36, 37, 24, 25, 26, 38, 39, 40, 5, 41, 13, 14, 15, 16, 17, 18, 19, 20, 21, 22, 23, 27, 28, 29, 30, 42, 43, 44, 45, 46, 47, 48, 49, 50, 51, 52, 53, 54, 55, 56, 57, 58, 59, 60, 61] (by decide +kernel) (by decide +kernel)
set_option maxRecDepth 20000 in
theorem gX1_balance_X1_partOf : GoodIn wsX1_balance (wsV RX1 115 RX1 yX1_partOf wsX1_partOf) := goodIn_app (goodIn_of _ (by decide +kernel)) ggX1_balance_X1_partOf
theorem dX1_balance_0 : decode cX1_balance 0 = .ok (.aload_n 0, 1) := by decide +kernel
theorem dX1_balance_1 : decode cX1_balance 1 = .ok (.iload_n 1, 1) := by decide +kernel
theorem dX1_balance_2 : decode cX1_balance 2 = .ok (.invokevirtual 55, 3) := by decide +kernel
theorem dX1_balance_5 : decode cX1_balance 5 = .ok (.astore_n 3, 1) := by decide +kernel
theorem dX1_balance_6 : decode cX1_balance 6 = .ok (.iload_n 2, 1) := by decide +kernel
theorem dX1_balance_7 : decode cX1_balance 7 = .ok (.aload_n 0, 1) := by decide +kernel
theorem dX1_balance_8 : decode cX1_balance 8 = .ok (.getfield 16, 3) := by decide +kernel
theorem dX1_balance_11 : decode cX1_balance 11 = .ok (.arraylength, 1) := by decide +kernel
theorem dX1_balance_12 : decode cX1_balance 12 = .ok (.invokestatic 29, 3) := by decide +kernel
theorem dX1_balance_15 : decode cX1_balance 15 = .ok (.aload_n 3, 1) := by decide +kernel
theorem dX1_balance_16 : decode cX1_balance 16 = .ok (.getfield 83, 3) := by decide +kernel
theorem dX1_balance_19 : decode cX1_balance 19 = .ok (.aload_n 3, 1) := by decide +kernel
theorem dX1_balance_20 : decode cX1_balance 20 = .ok (.iload_n 2, 1) := by decide +kernel
theorem dX1_balance_21 : decode cX1_balance 21 = .ok (.invokevirtual 119, 3) := by decide +kernel
theorem dX1_balance_24 : decode cX1_balance 24 = .ok (.imul, 1) := by decide +kernel
theorem dX1_balance_25 : decode cX1_balance 25 = .ok (.bipush 30, 2) := by decide +kernel
theorem dX1_balance_27 : decode cX1_balance 27 = .ok (.idiv, 1) := by decide +kernel
theorem dX1_balance_28 : decode cX1_balance 28 = .ok (.istore 4, 2) := by decide +kernel
theorem dX1_balance_30 : decode cX1_balance 30 = .ok (.aload_n 0, 1) := by decide +kernel
theorem dX1_balance_31 : decode cX1_balance 31 = .ok (.aload_n 3, 1) := by decide +kernel
theorem dX1_balance_32 : decode cX1_balance 32 = .ok (.iload_n 2, 1) := by decide +kernel
theorem dX1_balance_33 : decode cX1_balance 33 = .ok (.aload_n 0, 1) := by decide +kernel
theorem dX1_balance_34 : decode cX1_balance 34 = .ok (.getfield 16, 3) := by decide +kernel
theorem dX1_balance_37 : decode cX1_balance 37 = .ok (.iload_n 2, 1) := by decide +kernel
theorem dX1_balance_38 : decode cX1_balance 38 = .ok (.iaload, 1) := by decide +kernel
theorem dX1_balance_39 : decode cX1_balance 39 = .ok (.invokevirtual 115, 3) := by decide +kernel
theorem dX1_balance_42 : decode cX1_balance 42 = .ok (.iload 4, 2) := by decide +kernel
theorem dX1_balance_44 : decode cX1_balance 44 = .ok (.isub, 1) := by decide +kernel
theorem dX1_balance_45 : decode cX1_balance 45 = .ok (.ireturn, 1) := by decide +kernel
set_option maxRecDepth 20000 in
theorem ggX1_share_X1_checkNumber : GoodIn wsX1_share wsX1_checkNumber := goodIn_ca (goodIn_r _ [5, 6, 7] (by decide +kernel) (by decide +kernel)) (goodIn_sub (fun _ h => List.mem_cons_of_mem _ (List.mem_append_right _ h)) (by decide +kernel))
set_option maxRecDepth 20000 in
theorem gX1_share_X1_checkNumber : GoodIn wsX1_share (va_wsS RX1 29 yX1_checkNumber wsX1_checkNumber) := goodIn_app (goodIn_of _ (by decide +kernel)) ggX1_share_X1_checkNumber
set_option maxRecDepth 20000 in
theorem ggX1_share_X1_allAreas : GoodIn wsX1_share wsX1_allAreas := goodIn_r _ [11, 1, 12, 13, 14, 15, 16] (by decide +kernel) (by decide +kernel)
set_option maxRecDepth 20000 in
theorem gX1_share_X1_allAreas : GoodIn wsX1_share (wsV RX1 122 RX1 yX1_allAreas wsX1_allAreas) := goodIn_app (goodIn_of _ (by decide +kernel)) ggX1_share_X1_allAreas
theorem dX1_share_0 : decode cX1_share 0 = .ok (.iload_n 1, 1) := by decide +kernel
theorem dX1_share_1 : decode cX1_share 1 = .ok (.aload_n 0, 1) := by decide +kernel
theorem dX1_share_2 : decode cX1_share 2 = .ok (.getfield 9, 3) := by decide +kernel
theorem dX1_share_5 : decode cX1_share 5 = .ok (.arraylength, 1) := by decide +kernel
theorem dX1_share_6 : decode cX1_share 6 = .ok (.invokestatic 29, 3) := by decide +kernel
theorem dX1_share_9 : decode cX1_share 9 = .ok (.aload_n 0, 1) := by decide +kernel
theorem dX1_share_10 : decode cX1_share 10 = .ok (.invokevirtual 122, 3) := by decide +kernel
theorem dX1_share_13 : decode cX1_share 13 = .ok (.istore_n 2, 1) := by decide +kernel
theorem dX1_share_14 : decode cX1_share 14 = .ok (.iload_n 2, 1) := by decide +kernel
theorem dX1_share_15 : decode cX1_share 15 = .ok (.ifCond .le 16, 3) := by decide +kernel
theorem dX1_share_18 : decode cX1_share 18 = .ok (.aload_n 0, 1) := by decide +kernel
theorem dX1_share_19 : decode cX1_share 19 = .ok (.getfield 9, 3) := by decide +kernel
theorem dX1_share_22 : decode cX1_share 22 = .ok (.iload_n 1, 1) := by decide +kernel
theorem dX1_share_23 : decode cX1_share 23 = .ok (.iaload, 1) := by decide +kernel
theorem dX1_share_24 : decode cX1_share 24 = .ok (.i2d, 1) := by decide +kernel
theorem dX1_share_25 : decode cX1_share 25 = .ok (.iload_n 2, 1) := by decide +kernel
theorem dX1_share_26 : decode cX1_share 26 = .ok (.i2d, 1) := by decide +kernel
theorem dX1_share_27 : decode cX1_share 27 = .ok (.ddiv, 1) := by decide +kernel
theorem dX1_share_28 : decode cX1_share 28 = .ok (.goto 4, 3) := by decide +kernel
theorem dX1_share_31 : decode cX1_share 31 = .ok (.dconst 0, 1) := by decide +kernel
theorem dX1_share_32 : decode cX1_share 32 = .ok (.dreturn, 1) := by decide +kernel
theorem dX1_checkNumber_0 : decode cX1_checkNumber 0 = .ok (.iload_n 0, 1) := by decide +kernel
theorem dX1_checkNumber_1 : decode cX1_checkNumber 1 = .ok (.ifCond .lt 8, 3) := by decide +kernel
theorem dX1_checkNumber_4 : decode cX1_checkNumber 4 = .ok (.iload_n 0, 1) := by decide +kernel
theorem dX1_checkNumber_5 : decode cX1_checkNumber 5 = .ok (.iload_n 1, 1) := by decide +kernel
theorem dX1_checkNumber_6 : decode cX1_checkNumber 6 = .ok (.if_icmp .lt 13, 3) := by decide +kernel
theorem dX1_checkNumber_9 : decode cX1_checkNumber 9 = .ok (.new 126, 3) := by decide +kernel
theorem dX1_checkNumber_12 : decode cX1_checkNumber 12 = .ok (.dup, 1) := by decide +kernel
theorem dX1_checkNumber_13 : decode cX1_checkNumber 13 = .ok (.ldc 128, 2) := by decide +kernel
theorem dX1_checkNumber_15 : decode cX1_checkNumber 15 = .ok (.invokespecial 130, 3) := by decide +kernel
theorem dX1_checkNumber_18 : decode cX1_checkNumber 18 = .ok (.athrow, 1) := by decide +kernel
theorem dX1_checkNumber_19 : decode cX1_checkNumber 19 = .ok (.return_, 1) := by decide +kernel
theorem dX1_checkRange_0 : decode cX1_checkRange 0 = .ok (.iload_n 0, 1) := by decide +kernel
theorem dX1_checkRange_1 : decode cX1_checkRange 1 = .ok (.iload_n 1, 1) := by decide +kernel
theorem dX1_checkRange_2 : decode cX1_checkRange 2 = .ok (.if_icmp .lt 8, 3) := by decide +kernel
theorem dX1_checkRange_5 : decode cX1_checkRange 5 = .ok (.iload_n 0, 1) := by decide +kernel
theorem dX1_checkRange_6 : decode cX1_checkRange 6 = .ok (.iload_n 2, 1) := by decide +kernel
theorem dX1_checkRange_7 : decode cX1_checkRange 7 = .ok (.if_icmp .le 13, 3) := by decide +kernel
theorem dX1_checkRange_10 : decode cX1_checkRange 10 = .ok (.new 131, 3) := by decide +kernel
theorem dX1_checkRange_13 : decode cX1_checkRange 13 = .ok (.dup, 1) := by decide +kernel
theorem dX1_checkRange_14 : decode cX1_checkRange 14 = .ok (.ldc 133, 2) := by decide +kernel
theorem dX1_checkRange_16 : decode cX1_checkRange 16 = .ok (.invokespecial 135, 3) := by decide +kernel
theorem dX1_checkRange_19 : decode cX1_checkRange 19 = .ok (.athrow, 1) := by decide +kernel
theorem dX1_checkRange_20 : decode cX1_checkRange 20 = .ok (.return_, 1) := by decide +kernel
set_option maxRecDepth 20000 in
theorem ggX1_find_X1_checkNumber : GoodIn wsX1_find wsX1_checkNumber := goodIn_ca (goodIn_r _ [7, 1, 2] (by decide +kernel) (by decide +kernel)) (goodIn_sub (fun _ h => List.mem_cons_of_mem _ (List.mem_append_right _ h)) (by decide +kernel))
set_option maxRecDepth 20000 in
theorem gX1_find_X1_checkNumber : GoodIn wsX1_find (va_wsS RX1 29 yX1_checkNumber wsX1_checkNumber) := goodIn_app (goodIn_of _ (by decide +kernel)) ggX1_find_X1_checkNumber
theorem dX1_find_0 : decode cX1_find 0 = .ok (.iload_n 1, 1) := by decide +kernel
theorem dX1_find_1 : decode cX1_find 1 = .ok (.aload_n 0, 1) := by decide +kernel
theorem dX1_find_2 : decode cX1_find 2 = .ok (.getfield 21, 3) := by decide +kernel
theorem dX1_find_5 : decode cX1_find 5 = .ok (.arraylength, 1) := by decide +kernel
theorem dX1_find_6 : decode cX1_find 6 = .ok (.invokestatic 29, 3) := by decide +kernel
theorem dX1_find_9 : decode cX1_find 9 = .ok (.aload_n 0, 1) := by decide +kernel
theorem dX1_find_10 : decode cX1_find 10 = .ok (.getfield 21, 3) := by decide +kernel
theorem dX1_find_13 : decode cX1_find 13 = .ok (.iload_n 1, 1) := by decide +kernel
theorem dX1_find_14 : decode cX1_find 14 = .ok (.aaload, 1) := by decide +kernel
theorem dX1_find_15 : decode cX1_find 15 = .ok (.astore_n 2, 1) := by decide +kernel
theorem dX1_find_16 : decode cX1_find 16 = .ok (.aload_n 2, 1) := by decide +kernel
theorem dX1_find_17 : decode cX1_find 17 = .ok (.ifnonnull 13, 3) := by decide +kernel
theorem dX1_find_20 : decode cX1_find 20 = .ok (.new 126, 3) := by decide +kernel
theorem dX1_find_23 : decode cX1_find 23 = .ok (.dup, 1) := by decide +kernel
theorem dX1_find_24 : decode cX1_find 24 = .ok (.ldc 136, 2) := by decide +kernel
theorem dX1_find_26 : decode cX1_find 26 = .ok (.invokespecial 130, 3) := by decide +kernel
theorem dX1_find_29 : decode cX1_find 29 = .ok (.athrow, 1) := by decide +kernel
theorem dX1_find_30 : decode cX1_find 30 = .ok (.aload_n 2, 1) := by decide +kernel
theorem dX1_find_31 : decode cX1_find 31 = .ok (.areturn, 1) := by decide +kernel
set_option maxRecDepth 20000 in
theorem ggX1_daysLet_X0_daysWithin : GoodIn wsX1_daysLet wsX0_daysWithin := goodIn_r _ [6, 7, 8, 9, 10, 11, 12, 13, 14, 15, 21, 22, 23, 24, 25, 26, 27, 28, 29, 30, 31, 32] (by decide +kernel) (by decide +kernel)
set_option maxRecDepth 20000 in
theorem gX1_daysLet_X0_daysWithin : GoodIn wsX1_daysLet (wsV RX1 138 RX0 yX0_daysWithin wsX0_daysWithin) := goodIn_app (goodIn_of _ (by decide +kernel)) ggX1_daysLet_X0_daysWithin
theorem dX1_daysLet_0 : decode cX1_daysLet 0 = .ok (.iconst 0, 1) := by decide +kernel
theorem dX1_daysLet_1 : decode cX1_daysLet 1 = .ok (.istore 4, 2) := by decide +kernel
theorem dX1_daysLet_3 : decode cX1_daysLet 3 = .ok (.aload_n 0, 1) := by decide +kernel
theorem dX1_daysLet_4 : decode cX1_daysLet 4 = .ok (.getfield 21, 3) := by decide +kernel
theorem dX1_daysLet_7 : decode cX1_daysLet 7 = .ok (.astore 5, 2) := by decide +kernel
theorem dX1_daysLet_9 : decode cX1_daysLet 9 = .ok (.aload 5, 2) := by decide +kernel
theorem dX1_daysLet_11 : decode cX1_daysLet 11 = .ok (.arraylength, 1) := by decide +kernel
theorem dX1_daysLet_12 : decode cX1_daysLet 12 = .ok (.istore 6, 2) := by decide +kernel
theorem dX1_daysLet_14 : decode cX1_daysLet 14 = .ok (.iconst 0, 1) := by decide +kernel
theorem dX1_daysLet_15 : decode cX1_daysLet 15 = .ok (.istore 7, 2) := by decide +kernel
theorem dX1_daysLet_17 : decode cX1_daysLet 17 = .ok (.iload 7, 2) := by decide +kernel
theorem dX1_daysLet_19 : decode cX1_daysLet 19 = .ok (.iload 6, 2) := by decide +kernel
theorem dX1_daysLet_21 : decode cX1_daysLet 21 = .ok (.if_icmp .ge 42, 3) := by decide +kernel
theorem dX1_daysLet_24 : decode cX1_daysLet 24 = .ok (.aload 5, 2) := by decide +kernel
theorem dX1_daysLet_26 : decode cX1_daysLet 26 = .ok (.iload 7, 2) := by decide +kernel
theorem dX1_daysLet_28 : decode cX1_daysLet 28 = .ok (.aaload, 1) := by decide +kernel
theorem dX1_daysLet_29 : decode cX1_daysLet 29 = .ok (.astore 8, 2) := by decide +kernel
theorem dX1_daysLet_31 : decode cX1_daysLet 31 = .ok (.aload 8, 2) := by decide +kernel
theorem dX1_daysLet_33 : decode cX1_daysLet 33 = .ok (.ifnull 24, 3) := by decide +kernel
theorem dX1_daysLet_36 : decode cX1_daysLet 36 = .ok (.aload 8, 2) := by decide +kernel
theorem dX1_daysLet_38 : decode cX1_daysLet 38 = .ok (.getfield 101, 3) := by decide +kernel
theorem dX1_daysLet_41 : decode cX1_daysLet 41 = .ok (.iload_n 1, 1) := by decide +kernel
theorem dX1_daysLet_42 : decode cX1_daysLet 42 = .ok (.if_icmp .ne 15, 3) := by decide +kernel
theorem dX1_daysLet_45 : decode cX1_daysLet 45 = .ok (.iload 4, 2) := by decide +kernel
theorem dX1_daysLet_47 : decode cX1_daysLet 47 = .ok (.aload 8, 2) := by decide +kernel
theorem dX1_daysLet_49 : decode cX1_daysLet 49 = .ok (.iload_n 2, 1) := by decide +kernel
theorem dX1_daysLet_50 : decode cX1_daysLet 50 = .ok (.iload_n 3, 1) := by decide +kernel
theorem dX1_daysLet_51 : decode cX1_daysLet 51 = .ok (.invokevirtual 138, 3) := by decide +kernel
theorem dX1_daysLet_54 : decode cX1_daysLet 54 = .ok (.iadd, 1) := by decide +kernel
theorem dX1_daysLet_55 : decode cX1_daysLet 55 = .ok (.istore 4, 2) := by decide +kernel
theorem dX1_daysLet_57 : decode cX1_daysLet 57 = .ok (.iinc 7 1, 3) := by decide +kernel
theorem dX1_daysLet_60 : decode cX1_daysLet 60 = .ok (.goto (-43), 3) := by decide +kernel
theorem dX1_daysLet_63 : decode cX1_daysLet 63 = .ok (.iload 4, 2) := by decide +kernel
theorem dX1_daysLet_65 : decode cX1_daysLet 65 = .ok (.ireturn, 1) := by decide +kernel
theorem dX1_allAreas_0 : decode cX1_allAreas 0 = .ok (.iconst 0, 1) := by decide +kernel
theorem dX1_allAreas_1 : decode cX1_allAreas 1 = .ok (.istore_n 1, 1) := by decide +kernel
theorem dX1_allAreas_2 : decode cX1_allAreas 2 = .ok (.aload_n 0, 1) := by decide +kernel
theorem dX1_allAreas_3 : decode cX1_allAreas 3 = .ok (.getfield 9, 3) := by decide +kernel
theorem dX1_allAreas_6 : decode cX1_allAreas 6 = .ok (.astore_n 2, 1) := by decide +kernel
theorem dX1_allAreas_7 : decode cX1_allAreas 7 = .ok (.aload_n 2, 1) := by decide +kernel
theorem dX1_allAreas_8 : decode cX1_allAreas 8 = .ok (.arraylength, 1) := by decide +kernel
theorem dX1_allAreas_9 : decode cX1_allAreas 9 = .ok (.istore_n 3, 1) := by decide +kernel
theorem dX1_allAreas_10 : decode cX1_allAreas 10 = .ok (.iconst 0, 1) := by decide +kernel
theorem dX1_allAreas_11 : decode cX1_allAreas 11 = .ok (.istore 4, 2) := by decide +kernel
theorem dX1_allAreas_13 : decode cX1_allAreas 13 = .ok (.iload 4, 2) := by decide +kernel
theorem dX1_allAreas_15 : decode cX1_allAreas 15 = .ok (.iload_n 3, 1) := by decide +kernel
theorem dX1_allAreas_16 : decode cX1_allAreas 16 = .ok (.if_icmp .ge 20, 3) := by decide +kernel
theorem dX1_allAreas_19 : decode cX1_allAreas 19 = .ok (.aload_n 2, 1) := by decide +kernel
theorem dX1_allAreas_20 : decode cX1_allAreas 20 = .ok (.iload 4, 2) := by decide +kernel
theorem dX1_allAreas_22 : decode cX1_allAreas 22 = .ok (.iaload, 1) := by decide +kernel
theorem dX1_allAreas_23 : decode cX1_allAreas 23 = .ok (.istore 5, 2) := by decide +kernel
theorem dX1_allAreas_25 : decode cX1_allAreas 25 = .ok (.iload_n 1, 1) := by decide +kernel
theorem dX1_allAreas_26 : decode cX1_allAreas 26 = .ok (.iload 5, 2) := by decide +kernel
theorem dX1_allAreas_28 : decode cX1_allAreas 28 = .ok (.iadd, 1) := by decide +kernel
theorem dX1_allAreas_29 : decode cX1_allAreas 29 = .ok (.istore_n 1, 1) := by decide +kernel
theorem dX1_allAreas_30 : decode cX1_allAreas 30 = .ok (.iinc 4 1, 3) := by decide +kernel
theorem dX1_allAreas_33 : decode cX1_allAreas 33 = .ok (.goto (-20), 3) := by decide +kernel
theorem dX1_allAreas_36 : decode cX1_allAreas 36 = .ok (.iload_n 1, 1) := by decide +kernel
theorem dX1_allAreas_37 : decode cX1_allAreas 37 = .ok (.ireturn, 1) := by decide +kernel
theorem dX1_valueAt_0 : decode cX1_valueAt 0 = .ok (.iload_n 1, 1) := by decide +kernel
theorem dX1_valueAt_1 : decode cX1_valueAt 1 = .ok (.ifCond .lt 15, 3) := by decide +kernel
theorem dX1_valueAt_4 : decode cX1_valueAt 4 = .ok (.iload_n 1, 1) := by decide +kernel
theorem dX1_valueAt_5 : decode cX1_valueAt 5 = .ok (.aload_n 0, 1) := by decide +kernel
theorem dX1_valueAt_6 : decode cX1_valueAt 6 = .ok (.arraylength, 1) := by decide +kernel
theorem dX1_valueAt_7 : decode cX1_valueAt 7 = .ok (.if_icmp .ge 9, 3) := by decide +kernel
theorem dX1_valueAt_10 : decode cX1_valueAt 10 = .ok (.aload_n 0, 1) := by decide +kernel
theorem dX1_valueAt_11 : decode cX1_valueAt 11 = .ok (.iload_n 1, 1) := by decide +kernel
theorem dX1_valueAt_12 : decode cX1_valueAt 12 = .ok (.iaload, 1) := by decide +kernel
theorem dX1_valueAt_13 : decode cX1_valueAt 13 = .ok (.goto 4, 3) := by decide +kernel
theorem dX1_valueAt_16 : decode cX1_valueAt 16 = .ok (.iconst 0, 1) := by decide +kernel
theorem dX1_valueAt_17 : decode cX1_valueAt 17 = .ok (.ireturn, 1) := by decide +kernel
set_option maxRecDepth 20000 in
theorem ggX1_rentFor_X0_runsOn : GoodIn wsX1_rentFor wsX0_runsOn := goodIn_r _ [10, 11, 12, 44, 45, 46, 47, 48, 49, 50, 51, 52, 53, 54, 55] (by decide +kernel) (by decide +kernel)
set_option maxRecDepth 20000 in
theorem gX1_rentFor_X0_runsOn : GoodIn wsX1_rentFor (wsV RX1 104 RX0 yX0_runsOn wsX0_runsOn) := goodIn_app (goodIn_of _ (by decide +kernel)) ggX1_rentFor_X0_runsOn
set_option maxRecDepth 20000 in
theorem ggX1_rentFor_X0_isFreeOn : GoodIn wsX1_rentFor wsX0_isFreeOn := goodIn_r _ [16, 11, 17, 44, 45, 46, 47, 48, 49, 50, 51, 52, 53, 54, 55] (by decide +kernel) (by decide +kernel)
set_option maxRecDepth 20000 in
theorem gX1_rentFor_X0_isFreeOn : GoodIn wsX1_rentFor (wsV RX1 141 RX0 yX0_isFreeOn wsX0_isFreeOn) := goodIn_app (goodIn_of _ (by decide +kernel)) ggX1_rentFor_X0_isFreeOn
set_option maxRecDepth 20000 in
theorem ggX1_rentFor_X0_agreedOn : GoodIn wsX1_rentFor wsX0_agreedOn := goodIn_r _ [21, 11, 22, 23, 24, 25, 44, 45, 46, 47, 48, 49, 50, 51, 52, 53, 54, 55] (by decide +kernel) (by decide +kernel)
set_option maxRecDepth 20000 in
theorem gX1_rentFor_X0_agreedOn : GoodIn wsX1_rentFor (wsV RX1 144 RX0 yX0_agreedOn wsX0_agreedOn) := goodIn_app (goodIn_of _ (by decide +kernel)) ggX1_rentFor_X0_agreedOn
set_option maxRecDepth 20000 in
theorem ggX1_rentFor_X1_valueAt : GoodIn wsX1_rentFor wsX1_valueAt := goodIn_r _ [29] (by decide +kernel) (by decide +kernel)
set_option maxRecDepth 20000 in
theorem gX1_rentFor_X1_valueAt : GoodIn wsX1_rentFor (va_wsS RX1 147 yX1_valueAt wsX1_valueAt) := goodIn_app (goodIn_of _ (by decide +kernel)) ggX1_rentFor_X1_valueAt
set_option maxRecDepth 20000 in
theorem ggX1_rentFor_X1_highestIndex : GoodIn wsX1_rentFor wsX1_highestIndex := goodIn_r _ [33, 1, 2, 3, 4, 5, 34, 35, 36, 9, 37, 38, 11, 26, 27, 28, 29, 44, 45, 46, 47, 48, 49, 50, 51, 52, 53, 54, 55, 39, 40, 41, 42, 43] (by decide +kernel) (by decide +kernel)
set_option maxRecDepth 20000 in
theorem gX1_rentFor_X1_highestIndex : GoodIn wsX1_rentFor (wsV RX1 151 RX1 yX1_highestIndex wsX1_highestIndex) := goodIn_app (goodIn_of _ (by decide +kernel)) ggX1_rentFor_X1_highestIndex
theorem dX1_rentFor_0 : decode cX1_rentFor 0 = .ok (.aload_n 1, 1) := by decide +kernel
theorem dX1_rentFor_1 : decode cX1_rentFor 1 = .ok (.iload_n 2, 1) := by decide +kernel
theorem dX1_rentFor_2 : decode cX1_rentFor 2 = .ok (.invokevirtual 104, 3) := by decide +kernel
theorem dX1_rentFor_5 : decode cX1_rentFor 5 = .ok (.ifCond .eq 11, 3) := by decide +kernel
theorem dX1_rentFor_8 : decode cX1_rentFor 8 = .ok (.aload_n 1, 1) := by decide +kernel
theorem dX1_rentFor_9 : decode cX1_rentFor 9 = .ok (.iload_n 2, 1) := by decide +kernel
theorem dX1_rentFor_10 : decode cX1_rentFor 10 = .ok (.invokevirtual 141, 3) := by decide +kernel
theorem dX1_rentFor_13 : decode cX1_rentFor 13 = .ok (.ifCond .eq 5, 3) := by decide +kernel
theorem dX1_rentFor_16 : decode cX1_rentFor 16 = .ok (.iconst 0, 1) := by decide +kernel
theorem dX1_rentFor_17 : decode cX1_rentFor 17 = .ok (.ireturn, 1) := by decide +kernel
theorem dX1_rentFor_18 : decode cX1_rentFor 18 = .ok (.aload_n 1, 1) := by decide +kernel
theorem dX1_rentFor_19 : decode cX1_rentFor 19 = .ok (.iload_n 2, 1) := by decide +kernel
theorem dX1_rentFor_20 : decode cX1_rentFor 20 = .ok (.invokevirtual 144, 3) := by decide +kernel
theorem dX1_rentFor_23 : decode cX1_rentFor 23 = .ok (.istore_n 3, 1) := by decide +kernel
theorem dX1_rentFor_24 : decode cX1_rentFor 24 = .ok (.aload_n 0, 1) := by decide +kernel
theorem dX1_rentFor_25 : decode cX1_rentFor 25 = .ok (.getfield 13, 3) := by decide +kernel
theorem dX1_rentFor_28 : decode cX1_rentFor 28 = .ok (.aload_n 1, 1) := by decide +kernel
theorem dX1_rentFor_29 : decode cX1_rentFor 29 = .ok (.getfield 59, 3) := by decide +kernel
theorem dX1_rentFor_32 : decode cX1_rentFor 32 = .ok (.bipush 30, 2) := by decide +kernel
theorem dX1_rentFor_34 : decode cX1_rentFor 34 = .ok (.idiv, 1) := by decide +kernel
theorem dX1_rentFor_35 : decode cX1_rentFor 35 = .ok (.invokestatic 147, 3) := by decide +kernel
theorem dX1_rentFor_38 : decode cX1_rentFor 38 = .ok (.istore 4, 2) := by decide +kernel
theorem dX1_rentFor_40 : decode cX1_rentFor 40 = .ok (.iload 4, 2) := by decide +kernel
theorem dX1_rentFor_42 : decode cX1_rentFor 42 = .ok (.ifCond .gt 5, 3) := by decide +kernel
theorem dX1_rentFor_45 : decode cX1_rentFor 45 = .ok (.iload_n 3, 1) := by decide +kernel
theorem dX1_rentFor_46 : decode cX1_rentFor 46 = .ok (.ireturn, 1) := by decide +kernel
theorem dX1_rentFor_47 : decode cX1_rentFor 47 = .ok (.iload_n 3, 1) := by decide +kernel
theorem dX1_rentFor_48 : decode cX1_rentFor 48 = .ok (.iload_n 3, 1) := by decide +kernel
theorem dX1_rentFor_49 : decode cX1_rentFor 49 = .ok (.aload_n 0, 1) := by decide +kernel
theorem dX1_rentFor_50 : decode cX1_rentFor 50 = .ok (.aload_n 1, 1) := by decide +kernel
theorem dX1_rentFor_51 : decode cX1_rentFor 51 = .ok (.iload_n 2, 1) := by decide +kernel
theorem dX1_rentFor_52 : decode cX1_rentFor 52 = .ok (.invokevirtual 151, 3) := by decide +kernel
theorem dX1_rentFor_55 : decode cX1_rentFor 55 = .ok (.imul, 1) := by decide +kernel
theorem dX1_rentFor_56 : decode cX1_rentFor 56 = .ok (.iload 4, 2) := by decide +kernel
theorem dX1_rentFor_58 : decode cX1_rentFor 58 = .ok (.idiv, 1) := by decide +kernel
theorem dX1_rentFor_59 : decode cX1_rentFor 59 = .ok (.invokestatic 93, 3) := by decide +kernel
theorem dX1_rentFor_62 : decode cX1_rentFor 62 = .ok (.ireturn, 1) := by decide +kernel
set_option maxRecDepth 20000 in
theorem ggX1_highestIndex_X0_reviewsUpTo : GoodIn wsX1_highestIndex wsX0_reviewsUpTo := goodIn_r _ [10, 11, 12, 17, 18, 19, 20, 21, 22, 23, 24, 25, 26, 27, 28] (by decide +kernel) (by decide +kernel)
set_option maxRecDepth 20000 in
theorem gX1_highestIndex_X0_reviewsUpTo : GoodIn wsX1_highestIndex (wsV RX1 154 RX0 yX0_reviewsUpTo wsX0_reviewsUpTo) := goodIn_app (goodIn_of _ (by decide +kernel)) ggX1_highestIndex_X0_reviewsUpTo
set_option maxRecDepth 20000 in
theorem ggX1_highestIndex_X1_valueAt : GoodIn wsX1_highestIndex wsX1_valueAt := goodIn_r _ [16] (by decide +kernel) (by decide +kernel)
set_option maxRecDepth 20000 in
theorem gX1_highestIndex_X1_valueAt : GoodIn wsX1_highestIndex (va_wsS RX1 147 yX1_valueAt wsX1_valueAt) := goodIn_app (goodIn_of _ (by decide +kernel)) ggX1_highestIndex_X1_valueAt
theorem dX1_highestIndex_0 : decode cX1_highestIndex 0 = .ok (.iconst 0, 1) := by decide +kernel
theorem dX1_highestIndex_1 : decode cX1_highestIndex 1 = .ok (.istore_n 3, 1) := by decide +kernel
theorem dX1_highestIndex_2 : decode cX1_highestIndex 2 = .ok (.aload_n 1, 1) := by decide +kernel
theorem dX1_highestIndex_3 : decode cX1_highestIndex 3 = .ok (.iload_n 2, 1) := by decide +kernel
theorem dX1_highestIndex_4 : decode cX1_highestIndex 4 = .ok (.invokevirtual 154, 3) := by decide +kernel
theorem dX1_highestIndex_7 : decode cX1_highestIndex 7 = .ok (.istore 4, 2) := by decide +kernel
theorem dX1_highestIndex_9 : decode cX1_highestIndex 9 = .ok (.iconst 1, 1) := by decide +kernel
theorem dX1_highestIndex_10 : decode cX1_highestIndex 10 = .ok (.istore 5, 2) := by decide +kernel
theorem dX1_highestIndex_12 : decode cX1_highestIndex 12 = .ok (.iload 5, 2) := by decide +kernel
theorem dX1_highestIndex_14 : decode cX1_highestIndex 14 = .ok (.iload 4, 2) := by decide +kernel
theorem dX1_highestIndex_16 : decode cX1_highestIndex 16 = .ok (.if_icmp .gt 40, 3) := by decide +kernel
theorem dX1_highestIndex_19 : decode cX1_highestIndex 19 = .ok (.aload_n 1, 1) := by decide +kernel
theorem dX1_highestIndex_20 : decode cX1_highestIndex 20 = .ok (.getfield 59, 3) := by decide +kernel
theorem dX1_highestIndex_23 : decode cX1_highestIndex 23 = .ok (.iload 5, 2) := by decide +kernel
theorem dX1_highestIndex_25 : decode cX1_highestIndex 25 = .ok (.aload_n 1, 1) := by decide +kernel
theorem dX1_highestIndex_26 : decode cX1_highestIndex 26 = .ok (.getfield 77, 3) := by decide +kernel
theorem dX1_highestIndex_29 : decode cX1_highestIndex 29 = .ok (.imul, 1) := by decide +kernel
theorem dX1_highestIndex_30 : decode cX1_highestIndex 30 = .ok (.iadd, 1) := by decide +kernel
theorem dX1_highestIndex_31 : decode cX1_highestIndex 31 = .ok (.bipush 30, 2) := by decide +kernel
theorem dX1_highestIndex_33 : decode cX1_highestIndex 33 = .ok (.idiv, 1) := by decide +kernel
theorem dX1_highestIndex_34 : decode cX1_highestIndex 34 = .ok (.istore 6, 2) := by decide +kernel
theorem dX1_highestIndex_36 : decode cX1_highestIndex 36 = .ok (.iload_n 3, 1) := by decide +kernel
theorem dX1_highestIndex_37 : decode cX1_highestIndex 37 = .ok (.aload_n 0, 1) := by decide +kernel
theorem dX1_highestIndex_38 : decode cX1_highestIndex 38 = .ok (.getfield 13, 3) := by decide +kernel
theorem dX1_highestIndex_41 : decode cX1_highestIndex 41 = .ok (.iload 6, 2) := by decide +kernel
theorem dX1_highestIndex_43 : decode cX1_highestIndex 43 = .ok (.invokestatic 147, 3) := by decide +kernel
theorem dX1_highestIndex_46 : decode cX1_highestIndex 46 = .ok (.invokestatic 93, 3) := by decide +kernel
theorem dX1_highestIndex_49 : decode cX1_highestIndex 49 = .ok (.istore_n 3, 1) := by decide +kernel
theorem dX1_highestIndex_50 : decode cX1_highestIndex 50 = .ok (.iinc 5 1, 3) := by decide +kernel
theorem dX1_highestIndex_53 : decode cX1_highestIndex 53 = .ok (.goto (-41), 3) := by decide +kernel
theorem dX1_highestIndex_56 : decode cX1_highestIndex 56 = .ok (.iload_n 3, 1) := by decide +kernel
theorem dX1_highestIndex_57 : decode cX1_highestIndex 57 = .ok (.ireturn, 1) := by decide +kernel
set_option maxRecDepth 20000 in
theorem ggX1_billFor_X0_nextTurn : GoodIn wsX1_billFor wsX0_nextTurn := goodIn_r _ [9, 10, 11, 12, 13, 14, 15, 16, 17, 8, 18, 19, 20, 21, 22, 54, 55, 56, 57, 58, 59, 60, 61, 62, 63, 64, 65] (by decide +kernel) (by decide +kernel)
set_option maxRecDepth 20000 in
theorem gX1_billFor_X0_nextTurn : GoodIn wsX1_billFor (wsV RX1 111 RX0 yX0_nextTurn wsX0_nextTurn) := goodIn_app (goodIn_of _ (by decide +kernel)) ggX1_billFor_X0_nextTurn
set_option maxRecDepth 20000 in
theorem ggX1_billFor_X1_rentFor : GoodIn wsX1_billFor wsX1_rentFor := goodIn_r _ [27, 28, 29, 30, 3, 31, 32, 33, 34, 8, 35, 10, 12, 36, 37, 38, 39, 11, 40, 41, 42, 43, 44, 13, 14, 45, 46, 47, 26, 48, 49, 50, 51, 52, 53, 20, 21, 22, 15, 66, 67, 68, 69, 70, 54, 55, 56, 57, 58, 59, 60, 61, 62, 63, 64, 65] (by decide +kernel) (by decide +kernel)
set_option maxRecDepth 20000 in
theorem gX1_billFor_X1_rentFor : GoodIn wsX1_billFor (wsV RX1 86 RX1 yX1_rentFor wsX1_rentFor) := goodIn_app (goodIn_of _ (by decide +kernel)) ggX1_billFor_X1_rentFor
theorem dX1_billFor_0 : decode cX1_billFor 0 = .ok (.iload_n 2, 1) := by decide +kernel
theorem dX1_billFor_1 : decode cX1_billFor 1 = .ok (.bipush 30, 2) := by decide +kernel
theorem dX1_billFor_3 : decode cX1_billFor 3 = .ok (.imul, 1) := by decide +kernel
theorem dX1_billFor_4 : decode cX1_billFor 4 = .ok (.istore_n 3, 1) := by decide +kernel
theorem dX1_billFor_5 : decode cX1_billFor 5 = .ok (.iload_n 3, 1) := by decide +kernel
theorem dX1_billFor_6 : decode cX1_billFor 6 = .ok (.bipush 30, 2) := by decide +kernel
theorem dX1_billFor_8 : decode cX1_billFor 8 = .ok (.iadd, 1) := by decide +kernel
theorem dX1_billFor_9 : decode cX1_billFor 9 = .ok (.istore 4, 2) := by decide +kernel
theorem dX1_billFor_11 : decode cX1_billFor 11 = .ok (.iconst 0, 1) := by decide +kernel
theorem dX1_billFor_12 : decode cX1_billFor 12 = .ok (.istore 5, 2) := by decide +kernel
theorem dX1_billFor_14 : decode cX1_billFor 14 = .ok (.iconst 0, 1) := by decide +kernel
theorem dX1_billFor_15 : decode cX1_billFor 15 = .ok (.istore 6, 2) := by decide +kernel
theorem dX1_billFor_17 : decode cX1_billFor 17 = .ok (.iload 6, 2) := by decide +kernel
theorem dX1_billFor_19 : decode cX1_billFor 19 = .ok (.bipush 30, 2) := by decide +kernel
theorem dX1_billFor_21 : decode cX1_billFor 21 = .ok (.if_icmp .ge 46, 3) := by decide +kernel
theorem dX1_billFor_24 : decode cX1_billFor 24 = .ok (.iload_n 3, 1) := by decide +kernel
theorem dX1_billFor_25 : decode cX1_billFor 25 = .ok (.iload 4, 2) := by decide +kernel
theorem dX1_billFor_27 : decode cX1_billFor 27 = .ok (.if_icmp .ge 40, 3) := by decide +kernel
theorem dX1_billFor_30 : decode cX1_billFor 30 = .ok (.aload_n 1, 1) := by decide +kernel
theorem dX1_billFor_31 : decode cX1_billFor 31 = .ok (.iload_n 3, 1) := by decide +kernel
theorem dX1_billFor_32 : decode cX1_billFor 32 = .ok (.invokevirtual 111, 3) := by decide +kernel
theorem dX1_billFor_35 : decode cX1_billFor 35 = .ok (.iload 4, 2) := by decide +kernel
theorem dX1_billFor_37 : decode cX1_billFor 37 = .ok (.invokestatic 157, 3) := by decide +kernel
theorem dX1_billFor_40 : decode cX1_billFor 40 = .ok (.istore 7, 2) := by decide +kernel
theorem dX1_billFor_42 : decode cX1_billFor 42 = .ok (.iload 5, 2) := by decide +kernel
theorem dX1_billFor_44 : decode cX1_billFor 44 = .ok (.iload 7, 2) := by decide +kernel
theorem dX1_billFor_46 : decode cX1_billFor 46 = .ok (.iload_n 3, 1) := by decide +kernel
theorem dX1_billFor_47 : decode cX1_billFor 47 = .ok (.isub, 1) := by decide +kernel
theorem dX1_billFor_48 : decode cX1_billFor 48 = .ok (.aload_n 0, 1) := by decide +kernel
theorem dX1_billFor_49 : decode cX1_billFor 49 = .ok (.aload_n 1, 1) := by decide +kernel
theorem dX1_billFor_50 : decode cX1_billFor 50 = .ok (.iload_n 3, 1) := by decide +kernel
theorem dX1_billFor_51 : decode cX1_billFor 51 = .ok (.invokevirtual 86, 3) := by decide +kernel
theorem dX1_billFor_54 : decode cX1_billFor 54 = .ok (.imul, 1) := by decide +kernel
theorem dX1_billFor_55 : decode cX1_billFor 55 = .ok (.iadd, 1) := by decide +kernel
theorem dX1_billFor_56 : decode cX1_billFor 56 = .ok (.istore 5, 2) := by decide +kernel
theorem dX1_billFor_58 : decode cX1_billFor 58 = .ok (.iload 7, 2) := by decide +kernel
theorem dX1_billFor_60 : decode cX1_billFor 60 = .ok (.istore_n 3, 1) := by decide +kernel
theorem dX1_billFor_61 : decode cX1_billFor 61 = .ok (.iinc 6 1, 3) := by decide +kernel
theorem dX1_billFor_64 : decode cX1_billFor 64 = .ok (.goto (-47), 3) := by decide +kernel
theorem dX1_billFor_67 : decode cX1_billFor 67 = .ok (.iload 5, 2) := by decide +kernel
theorem dX1_billFor_69 : decode cX1_billFor 69 = .ok (.bipush 30, 2) := by decide +kernel
theorem dX1_billFor_71 : decode cX1_billFor 71 = .ok (.idiv, 1) := by decide +kernel
theorem dX1_billFor_72 : decode cX1_billFor 72 = .ok (.ireturn, 1) := by decide +kernel
set_option maxRecDepth 20000 in
theorem ggX1_partOf_X1_allAreas : GoodIn wsX1_partOf wsX1_allAreas := goodIn_r _ [11, 1, 30, 31, 32, 33, 34] (by decide +kernel) (by decide +kernel)
set_option maxRecDepth 20000 in
theorem gX1_partOf_X1_allAreas : GoodIn wsX1_partOf (wsV RX1 122 RX1 yX1_allAreas wsX1_allAreas) := goodIn_app (goodIn_of _ (by decide +kernel)) ggX1_partOf_X1_allAreas
set_option maxRecDepth 20000 in
theorem ggX1_partOf_X0_daysIn : GoodIn wsX1_partOf wsX0_daysIn := goodIn_r _ [16, 17, 18, 19, 15, 20, 21, 22, 4, 5, 6, 23, 24, 25, 26, 35, 36, 37, 38, 39, 40, 41, 42, 43, 44, 45, 46] (by decide +kernel) (by decide +kernel)
set_option maxRecDepth 20000 in
theorem gX1_partOf_X0_daysIn : GoodIn wsX1_partOf (wsV RX1 119 RX0 yX0_daysIn wsX0_daysIn) := goodIn_app (goodIn_of _ (by decide +kernel)) ggX1_partOf_X0_daysIn
set_option maxRecDepth 20000 in
theorem ggX1_partOf_X1_valueAt : GoodIn wsX1_partOf wsX1_valueAt := goodIn_r _ [29] (by decide +kernel) (by decide +kernel)
set_option maxRecDepth 20000 in
theorem gX1_partOf_X1_valueAt : GoodIn wsX1_partOf (va_wsS RX1 147 yX1_valueAt wsX1_valueAt) := goodIn_app (goodIn_of _ (by decide +kernel)) ggX1_partOf_X1_valueAt
theorem dX1_partOf_0 : decode cX1_partOf 0 = .ok (.aload_n 0, 1) := by decide +kernel
theorem dX1_partOf_1 : decode cX1_partOf 1 = .ok (.invokevirtual 122, 3) := by decide +kernel
theorem dX1_partOf_4 : decode cX1_partOf 4 = .ok (.istore 4, 2) := by decide +kernel
theorem dX1_partOf_6 : decode cX1_partOf 6 = .ok (.iload 4, 2) := by decide +kernel
theorem dX1_partOf_8 : decode cX1_partOf 8 = .ok (.ifCond .gt 5, 3) := by decide +kernel
theorem dX1_partOf_11 : decode cX1_partOf 11 = .ok (.iconst 0, 1) := by decide +kernel
theorem dX1_partOf_12 : decode cX1_partOf 12 = .ok (.ireturn, 1) := by decide +kernel
theorem dX1_partOf_13 : decode cX1_partOf 13 = .ok (.aload_n 1, 1) := by decide +kernel
theorem dX1_partOf_14 : decode cX1_partOf 14 = .ok (.iload_n 2, 1) := by decide +kernel
theorem dX1_partOf_15 : decode cX1_partOf 15 = .ok (.invokevirtual 119, 3) := by decide +kernel
theorem dX1_partOf_18 : decode cX1_partOf 18 = .ok (.istore 5, 2) := by decide +kernel
theorem dX1_partOf_20 : decode cX1_partOf 20 = .ok (.iload_n 3, 1) := by decide +kernel
theorem dX1_partOf_21 : decode cX1_partOf 21 = .ok (.i2l, 1) := by decide +kernel
theorem dX1_partOf_22 : decode cX1_partOf 22 = .ok (.aload_n 0, 1) := by decide +kernel
theorem dX1_partOf_23 : decode cX1_partOf 23 = .ok (.getfield 9, 3) := by decide +kernel
theorem dX1_partOf_26 : decode cX1_partOf 26 = .ok (.aload_n 1, 1) := by decide +kernel
theorem dX1_partOf_27 : decode cX1_partOf 27 = .ok (.getfield 101, 3) := by decide +kernel
theorem dX1_partOf_30 : decode cX1_partOf 30 = .ok (.invokestatic 147, 3) := by decide +kernel
theorem dX1_partOf_33 : decode cX1_partOf 33 = .ok (.i2l, 1) := by decide +kernel
theorem dX1_partOf_34 : decode cX1_partOf 34 = .ok (.lmul, 1) := by decide +kernel
theorem dX1_partOf_35 : decode cX1_partOf 35 = .ok (.iload 5, 2) := by decide +kernel
theorem dX1_partOf_37 : decode cX1_partOf 37 = .ok (.i2l, 1) := by decide +kernel
theorem dX1_partOf_38 : decode cX1_partOf 38 = .ok (.lmul, 1) := by decide +kernel
theorem dX1_partOf_39 : decode cX1_partOf 39 = .ok (.iload 4, 2) := by decide +kernel
theorem dX1_partOf_41 : decode cX1_partOf 41 = .ok (.i2l, 1) := by decide +kernel
theorem dX1_partOf_42 : decode cX1_partOf 42 = .ok (.ldc2_w 160, 3) := by decide +kernel
theorem dX1_partOf_45 : decode cX1_partOf 45 = .ok (.lmul, 1) := by decide +kernel
theorem dX1_partOf_46 : decode cX1_partOf 46 = .ok (.ldiv, 1) := by decide +kernel
theorem dX1_partOf_47 : decode cX1_partOf 47 = .ok (.lstore 6, 2) := by decide +kernel
theorem dX1_partOf_49 : decode cX1_partOf 49 = .ok (.aload_n 1, 1) := by decide +kernel
theorem dX1_partOf_50 : decode cX1_partOf 50 = .ok (.getfield 80, 3) := by decide +kernel
theorem dX1_partOf_53 : decode cX1_partOf 53 = .ok (.iconst (-1), 1) := by decide +kernel
theorem dX1_partOf_54 : decode cX1_partOf 54 = .ok (.if_icmp .ne 7, 3) := by decide +kernel
theorem dX1_partOf_57 : decode cX1_partOf 57 = .ok (.lload 6, 2) := by decide +kernel
theorem dX1_partOf_59 : decode cX1_partOf 59 = .ok (.l2i, 1) := by decide +kernel
theorem dX1_partOf_60 : decode cX1_partOf 60 = .ok (.ireturn, 1) := by decide +kernel
theorem dX1_partOf_61 : decode cX1_partOf 61 = .ok (.lload 6, 2) := by decide +kernel
theorem dX1_partOf_63 : decode cX1_partOf 63 = .ok (.l2i, 1) := by decide +kernel
theorem dX1_partOf_64 : decode cX1_partOf 64 = .ok (.aload_n 1, 1) := by decide +kernel
theorem dX1_partOf_65 : decode cX1_partOf 65 = .ok (.getfield 80, 3) := by decide +kernel
theorem dX1_partOf_68 : decode cX1_partOf 68 = .ok (.iload 5, 2) := by decide +kernel
theorem dX1_partOf_70 : decode cX1_partOf 70 = .ok (.imul, 1) := by decide +kernel
theorem dX1_partOf_71 : decode cX1_partOf 71 = .ok (.sipush 360, 3) := by decide +kernel
theorem dX1_partOf_74 : decode cX1_partOf 74 = .ok (.idiv, 1) := by decide +kernel
theorem dX1_partOf_75 : decode cX1_partOf 75 = .ok (.invokestatic 157, 3) := by decide +kernel
theorem dX1_partOf_78 : decode cX1_partOf 78 = .ok (.ireturn, 1) := by decide +kernel
