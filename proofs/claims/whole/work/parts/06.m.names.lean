theorem dJ9_abs_0f7a4_0 : decode cJ9_abs_0f7a4 0 = .ok (.iload_n 0, 1) := by decide +kernel
theorem dJ9_abs_0f7a4_1 : decode cJ9_abs_0f7a4 1 = .ok (.ifCond .ge 8, 3) := by decide +kernel
theorem dJ9_abs_0f7a4_4 : decode cJ9_abs_0f7a4 4 = .ok (.iload_n 0, 1) := by decide +kernel
theorem dJ9_abs_0f7a4_5 : decode cJ9_abs_0f7a4 5 = .ok (.ineg, 1) := by decide +kernel
theorem dJ9_abs_0f7a4_6 : decode cJ9_abs_0f7a4 6 = .ok (.goto 4, 3) := by decide +kernel
theorem dJ9_abs_0f7a4_9 : decode cJ9_abs_0f7a4 9 = .ok (.iload_n 0, 1) := by decide +kernel
theorem dJ9_abs_0f7a4_10 : decode cJ9_abs_0f7a4 10 = .ok (.ireturn, 1) := by decide +kernel
set_option maxRecDepth 20000 in
theorem ggL_pour_X8_pour : GoodIn wsL_pour wsX8_pour := goodIn_ca (goodIn_ca (goodIn_r _ [7, 8, 9, 10, 6, 11, 12, 13, 14, 15, 16, 17, 18, 19, 20, 21, 22, 23, 24, 25, 26, 27, 28, 29, 30, 31, 32, 33, 34, 35, 36, 37, 38, 39, 40, 41, 42, 43, 44, 45, 46, 47, 48, 49, 50, 51, 52, 53, 54, 55, 56, 57, 58, 59, 60, 61, 62, 63, 64, 65, 66, 67, 68, 69, 70, 71, 72, 73, 74, 75, 76, 77, 78, 79, 80, 81, 82, 83, 84, 85, 86, 87, 88, 89, 90, 91, 92, 93, 94, 95, 96, 97, 98, 99, 100, 101, 102, 103, 104, 105, 106, 107, 108, 109, 110, 111, 112, 113, 114, 115, 116, 117, 118, 119, 120, 121, 122, 123, 124, 125, 126, 127, 128, 129, 130, 131, 132, 133, 134, 135, 136, 137, 138, 139, 140, 141, 142, 143, 144, 145, 146, 147, 148, 149, 150, 151, 152, 153, 154, 155, 156, 157, 158, 159, 160, 161, 162, 163, 164, 165, 166, 167, 168, 169, 170, 171, 172, 173, 174, 175, 176, 177, 178, 179, 180, 181, 182] (by decide +kernel) (by decide +kernel)) (goodIn_sub (fun _ h => List.mem_cons_of_mem _ (List.mem_append_left _ (List.mem_append_right _ h))) (by decide +kernel))) (goodIn_sub (fun _ h => List.mem_cons_of_mem _ (List.mem_append_right _ h)) (by decide +kernel))
set_option maxRecDepth 20000 in
theorem gL_pour_X8_pour : GoodIn wsL_pour (wsV RL 7 RX8 yX8_pour wsX8_pour) := goodIn_app (goodIn_of _ (by decide +kernel)) ggL_pour_X8_pour
theorem dL_pour_0 : decode cL_pour 0 = .ok (.aload 4, 2) := by decide +kernel
theorem dL_pour_2 : decode cL_pour 2 = .ok (.iconst 0, 1) := by decide +kernel
theorem dL_pour_3 : decode cL_pour 3 = .ok (.aload_n 0, 1) := by decide +kernel
theorem dL_pour_4 : decode cL_pour 4 = .ok (.iload_n 1, 1) := by decide +kernel
theorem dL_pour_5 : decode cL_pour 5 = .ok (.iload_n 2, 1) := by decide +kernel
theorem dL_pour_6 : decode cL_pour 6 = .ok (.iload_n 3, 1) := by decide +kernel
theorem dL_pour_7 : decode cL_pour 7 = .ok (.invokevirtual 7, 3) := by decide +kernel
theorem dL_pour_10 : decode cL_pour 10 = .ok (.i2l, 1) := by decide +kernel
theorem dL_pour_11 : decode cL_pour 11 = .ok (.lastore, 1) := by decide +kernel
theorem dL_pour_12 : decode cL_pour 12 = .ok (.goto 11, 3) := by decide +kernel
theorem dL_pour_15 : decode cL_pour 15 = .ok (.astore 5, 2) := by decide +kernel
theorem dL_pour_17 : decode cL_pour 17 = .ok (.iconst 1, 1) := by decide +kernel
theorem dL_pour_18 : decode cL_pour 18 = .ok (.ireturn, 1) := by decide +kernel
theorem dL_pour_19 : decode cL_pour 19 = .ok (.astore 5, 2) := by decide +kernel
theorem dL_pour_21 : decode cL_pour 21 = .ok (.iconst 2, 1) := by decide +kernel
theorem dL_pour_22 : decode cL_pour 22 = .ok (.ireturn, 1) := by decide +kernel
theorem dL_pour_23 : decode cL_pour 23 = .ok (.iconst 0, 1) := by decide +kernel
theorem dL_pour_24 : decode cL_pour 24 = .ok (.ireturn, 1) := by decide +kernel
set_option maxRecDepth 20000 in
theorem ggL_dig_X8_dig : GoodIn wsL_dig wsX8_dig := goodIn_ca (goodIn_ca (goodIn_ca (goodIn_r _ [8, 9, 10, 11, 12, 13, 7, 14, 15, 16, 17, 18, 19, 20, 21, 22, 23, 24, 25, 26, 27, 28, 29, 30, 31, 32, 33, 34, 35, 36, 37, 38, 39, 40, 41, 42, 43, 44, 45, 46, 47, 48, 49, 50, 51, 52, 53, 54, 55, 56, 57, 58, 59, 60, 61, 62] (by decide +kernel) (by decide +kernel)) (goodIn_sub (fun _ h => List.mem_cons_of_mem _ (List.mem_append_left _ (List.mem_append_left _ (List.mem_append_right _ h)))) (by decide +kernel))) (goodIn_sub (fun _ h => List.mem_cons_of_mem _ (List.mem_append_left _ (List.mem_append_right _ h))) (by decide +kernel))) (goodIn_sub (fun _ h => List.mem_cons_of_mem _ (List.mem_append_right _ h)) (by decide +kernel))
set_option maxRecDepth 20000 in
theorem gL_dig_X8_dig : GoodIn wsL_dig (wsV RL 17 RX8 yX8_dig wsX8_dig) := goodIn_app (goodIn_of _ (by decide +kernel)) ggL_dig_X8_dig
theorem dL_dig_0 : decode cL_dig 0 = .ok (.aload 4, 2) := by decide +kernel
theorem dL_dig_2 : decode cL_dig 2 = .ok (.iconst 0, 1) := by decide +kernel
theorem dL_dig_3 : decode cL_dig 3 = .ok (.aload_n 0, 1) := by decide +kernel
theorem dL_dig_4 : decode cL_dig 4 = .ok (.iload_n 1, 1) := by decide +kernel
theorem dL_dig_5 : decode cL_dig 5 = .ok (.iload_n 2, 1) := by decide +kernel
theorem dL_dig_6 : decode cL_dig 6 = .ok (.iload_n 3, 1) := by decide +kernel
theorem dL_dig_7 : decode cL_dig 7 = .ok (.invokevirtual 17, 3) := by decide +kernel
theorem dL_dig_10 : decode cL_dig 10 = .ok (.i2l, 1) := by decide +kernel
theorem dL_dig_11 : decode cL_dig 11 = .ok (.lastore, 1) := by decide +kernel
theorem dL_dig_12 : decode cL_dig 12 = .ok (.goto 15, 3) := by decide +kernel
theorem dL_dig_15 : decode cL_dig 15 = .ok (.astore 5, 2) := by decide +kernel
theorem dL_dig_17 : decode cL_dig 17 = .ok (.iconst 1, 1) := by decide +kernel
theorem dL_dig_18 : decode cL_dig 18 = .ok (.ireturn, 1) := by decide +kernel
theorem dL_dig_19 : decode cL_dig 19 = .ok (.astore 5, 2) := by decide +kernel
theorem dL_dig_21 : decode cL_dig 21 = .ok (.iconst 2, 1) := by decide +kernel
theorem dL_dig_22 : decode cL_dig 22 = .ok (.ireturn, 1) := by decide +kernel
theorem dL_dig_23 : decode cL_dig 23 = .ok (.astore 5, 2) := by decide +kernel
theorem dL_dig_25 : decode cL_dig 25 = .ok (.iconst 3, 1) := by decide +kernel
theorem dL_dig_26 : decode cL_dig 26 = .ok (.ireturn, 1) := by decide +kernel
theorem dL_dig_27 : decode cL_dig 27 = .ok (.iconst 0, 1) := by decide +kernel
theorem dL_dig_28 : decode cL_dig 28 = .ok (.ireturn, 1) := by decide +kernel
set_option maxRecDepth 20000 in
theorem ggL_topplesIf_X8_topplesIf : GoodIn wsL_topplesIf wsX8_topplesIf := goodIn_ca (goodIn_ca (goodIn_r _ [7, 8, 9, 10, 11, 6, 12, 13, 14, 15, 16, 17, 18, 19, 20, 21, 22, 23, 24, 25, 26, 27, 28, 29, 30, 31, 32, 33, 34, 35, 36, 37, 38, 39, 40, 41, 42, 43, 44, 45, 46, 47, 48, 49, 50, 51, 52, 53, 54, 55, 56, 57, 58, 59, 60, 61, 62, 63, 64, 65, 66, 67, 68, 69, 70, 71, 72, 73, 74, 75, 76, 77, 78, 79, 80, 81, 82, 83, 84, 85, 86, 87, 88, 89, 90, 91, 92, 93, 94, 95, 96, 97, 98, 99, 100, 101, 102, 103, 104, 105, 106, 107, 108, 109, 110, 111, 112, 113, 114, 115, 116, 117, 118, 119, 120, 121, 122, 123, 124, 125, 126, 127, 128, 129, 130, 131, 132, 133, 134, 135, 136, 137, 138, 139, 140, 141, 142, 143, 144, 145, 146, 147, 148, 149, 150, 151] (by decide +kernel) (by decide +kernel)) (goodIn_sub (fun _ h => List.mem_cons_of_mem _ (List.mem_append_left _ (List.mem_append_right _ h))) (by decide +kernel))) (goodIn_sub (fun _ h => List.mem_cons_of_mem _ (List.mem_append_right _ h)) (by decide +kernel))
set_option maxRecDepth 20000 in
theorem gL_topplesIf_X8_topplesIf : GoodIn wsL_topplesIf (wsV RL 22 RX8 yX8_topplesIf wsX8_topplesIf) := goodIn_app (goodIn_of _ (by decide +kernel)) ggL_topplesIf_X8_topplesIf
theorem dL_topplesIf_0 : decode cL_topplesIf 0 = .ok (.aload 4, 2) := by decide +kernel
theorem dL_topplesIf_2 : decode cL_topplesIf 2 = .ok (.iconst 0, 1) := by decide +kernel
theorem dL_topplesIf_3 : decode cL_topplesIf 3 = .ok (.aload_n 0, 1) := by decide +kernel
theorem dL_topplesIf_4 : decode cL_topplesIf 4 = .ok (.iload_n 1, 1) := by decide +kernel
theorem dL_topplesIf_5 : decode cL_topplesIf 5 = .ok (.iload_n 2, 1) := by decide +kernel
theorem dL_topplesIf_6 : decode cL_topplesIf 6 = .ok (.iload_n 3, 1) := by decide +kernel
theorem dL_topplesIf_7 : decode cL_topplesIf 7 = .ok (.invokevirtual 22, 3) := by decide +kernel
theorem dL_topplesIf_10 : decode cL_topplesIf 10 = .ok (.i2l, 1) := by decide +kernel
theorem dL_topplesIf_11 : decode cL_topplesIf 11 = .ok (.lastore, 1) := by decide +kernel
theorem dL_topplesIf_12 : decode cL_topplesIf 12 = .ok (.goto 11, 3) := by decide +kernel
theorem dL_topplesIf_15 : decode cL_topplesIf 15 = .ok (.astore 5, 2) := by decide +kernel
theorem dL_topplesIf_17 : decode cL_topplesIf 17 = .ok (.iconst 1, 1) := by decide +kernel
theorem dL_topplesIf_18 : decode cL_topplesIf 18 = .ok (.ireturn, 1) := by decide +kernel
theorem dL_topplesIf_19 : decode cL_topplesIf 19 = .ok (.astore 5, 2) := by decide +kernel
theorem dL_topplesIf_21 : decode cL_topplesIf 21 = .ok (.iconst 2, 1) := by decide +kernel
theorem dL_topplesIf_22 : decode cL_topplesIf 22 = .ok (.ireturn, 1) := by decide +kernel
theorem dL_topplesIf_23 : decode cL_topplesIf 23 = .ok (.iconst 0, 1) := by decide +kernel
theorem dL_topplesIf_24 : decode cL_topplesIf 24 = .ok (.ireturn, 1) := by decide +kernel
set_option maxRecDepth 20000 in
theorem ggL_topplesIfBySweeps_X8_topplesIfBySweeps : GoodIn wsL_topplesIfBySweeps wsX8_topplesIfBySweeps := goodIn_ca (goodIn_ca (goodIn_r _ [7, 8, 9, 10, 11, 6, 12, 13, 14, 15, 16, 17, 18, 19, 20, 21, 22, 23, 24, 25, 26, 27, 28, 29, 30, 31, 32, 33, 34, 35, 36, 37, 38, 39, 40, 41, 42, 43, 44, 45, 46, 47, 48, 49, 50, 51, 52, 53, 54, 55, 56, 57, 58, 59, 60, 61, 62, 63, 64, 65, 66, 67, 68, 69, 70, 71, 72, 73, 74, 75, 76, 77, 78, 79, 80, 81, 82, 83, 84, 85, 86, 87, 88, 89, 90, 91, 92, 93, 94, 95, 96, 97, 98, 99, 100, 101, 102, 103, 104, 105, 106, 107, 108, 109, 110, 111, 112, 113, 114, 115, 116, 117] (by decide +kernel) (by decide +kernel)) (goodIn_sub (fun _ h => List.mem_cons_of_mem _ (List.mem_append_left _ (List.mem_append_right _ h))) (by decide +kernel))) (goodIn_sub (fun _ h => List.mem_cons_of_mem _ (List.mem_append_right _ h)) (by decide +kernel))
set_option maxRecDepth 20000 in
theorem gL_topplesIfBySweeps_X8_topplesIfBySweeps : GoodIn wsL_topplesIfBySweeps (wsV RL 25 RX8 yX8_topplesIfBySweeps wsX8_topplesIfBySweeps) := goodIn_app (goodIn_of _ (by decide +kernel)) ggL_topplesIfBySweeps_X8_topplesIfBySweeps
theorem dL_topplesIfBySweeps_0 : decode cL_topplesIfBySweeps 0 = .ok (.aload 4, 2) := by decide +kernel
theorem dL_topplesIfBySweeps_2 : decode cL_topplesIfBySweeps 2 = .ok (.iconst 0, 1) := by decide +kernel
theorem dL_topplesIfBySweeps_3 : decode cL_topplesIfBySweeps 3 = .ok (.aload_n 0, 1) := by decide +kernel
theorem dL_topplesIfBySweeps_4 : decode cL_topplesIfBySweeps 4 = .ok (.iload_n 1, 1) := by decide +kernel
theorem dL_topplesIfBySweeps_5 : decode cL_topplesIfBySweeps 5 = .ok (.iload_n 2, 1) := by decide +kernel
theorem dL_topplesIfBySweeps_6 : decode cL_topplesIfBySweeps 6 = .ok (.iload_n 3, 1) := by decide +kernel
theorem dL_topplesIfBySweeps_7 : decode cL_topplesIfBySweeps 7 = .ok (.invokevirtual 25, 3) := by decide +kernel
theorem dL_topplesIfBySweeps_10 : decode cL_topplesIfBySweeps 10 = .ok (.i2l, 1) := by decide +kernel
theorem dL_topplesIfBySweeps_11 : decode cL_topplesIfBySweeps 11 = .ok (.lastore, 1) := by decide +kernel
theorem dL_topplesIfBySweeps_12 : decode cL_topplesIfBySweeps 12 = .ok (.goto 11, 3) := by decide +kernel
theorem dL_topplesIfBySweeps_15 : decode cL_topplesIfBySweeps 15 = .ok (.astore 5, 2) := by decide +kernel
theorem dL_topplesIfBySweeps_17 : decode cL_topplesIfBySweeps 17 = .ok (.iconst 1, 1) := by decide +kernel
theorem dL_topplesIfBySweeps_18 : decode cL_topplesIfBySweeps 18 = .ok (.ireturn, 1) := by decide +kernel
theorem dL_topplesIfBySweeps_19 : decode cL_topplesIfBySweeps 19 = .ok (.astore 5, 2) := by decide +kernel
theorem dL_topplesIfBySweeps_21 : decode cL_topplesIfBySweeps 21 = .ok (.iconst 2, 1) := by decide +kernel
theorem dL_topplesIfBySweeps_22 : decode cL_topplesIfBySweeps 22 = .ok (.ireturn, 1) := by decide +kernel
theorem dL_topplesIfBySweeps_23 : decode cL_topplesIfBySweeps 23 = .ok (.iconst 0, 1) := by decide +kernel
theorem dL_topplesIfBySweeps_24 : decode cL_topplesIfBySweeps 24 = .ok (.ireturn, 1) := by decide +kernel
set_option maxRecDepth 20000 in
theorem ggL_lostIf_X8_lostIf : GoodIn wsL_lostIf wsX8_lostIf := goodIn_ca (goodIn_ca (goodIn_r _ [7, 8, 9, 10, 11, 6, 12, 13, 14, 15, 16, 17, 18, 19, 20, 21, 22, 23, 24, 25, 26, 27, 28, 29, 30, 31, 32, 33, 34, 35, 36, 37, 38, 39, 40, 41, 42, 43, 44, 45, 46, 47, 48, 49, 50, 51, 52, 53, 54, 55, 56, 57, 58, 59, 60, 61, 62, 63, 64, 65, 66, 67, 68, 69, 70, 71, 72, 73, 74, 75, 76, 77, 78, 79, 80, 81, 82, 83, 84, 85, 86, 87, 88, 89, 90, 91, 92, 93, 94, 95, 96, 97, 98, 99, 100, 101, 102, 103, 104, 105, 106, 107, 108, 109, 110, 111, 112, 113, 114, 115, 116, 117, 118, 119, 120, 121, 122, 123, 124, 125, 126, 127, 128, 129, 130, 131, 132, 133, 134, 135, 136, 137, 138, 139, 140, 141, 142, 143, 144, 145, 146, 147, 148, 149, 150, 151] (by decide +kernel) (by decide +kernel)) (goodIn_sub (fun _ h => List.mem_cons_of_mem _ (List.mem_append_left _ (List.mem_append_right _ h))) (by decide +kernel))) (goodIn_sub (fun _ h => List.mem_cons_of_mem _ (List.mem_append_right _ h)) (by decide +kernel))
set_option maxRecDepth 20000 in
theorem gL_lostIf_X8_lostIf : GoodIn wsL_lostIf (wsV RL 28 RX8 yX8_lostIf wsX8_lostIf) := goodIn_app (goodIn_of _ (by decide +kernel)) ggL_lostIf_X8_lostIf
theorem dL_lostIf_0 : decode cL_lostIf 0 = .ok (.aload 4, 2) := by decide +kernel
theorem dL_lostIf_2 : decode cL_lostIf 2 = .ok (.iconst 0, 1) := by decide +kernel
theorem dL_lostIf_3 : decode cL_lostIf 3 = .ok (.aload_n 0, 1) := by decide +kernel
theorem dL_lostIf_4 : decode cL_lostIf 4 = .ok (.iload_n 1, 1) := by decide +kernel
theorem dL_lostIf_5 : decode cL_lostIf 5 = .ok (.iload_n 2, 1) := by decide +kernel
theorem dL_lostIf_6 : decode cL_lostIf 6 = .ok (.iload_n 3, 1) := by decide +kernel
theorem dL_lostIf_7 : decode cL_lostIf 7 = .ok (.invokevirtual 28, 3) := by decide +kernel
theorem dL_lostIf_10 : decode cL_lostIf 10 = .ok (.i2l, 1) := by decide +kernel
theorem dL_lostIf_11 : decode cL_lostIf 11 = .ok (.lastore, 1) := by decide +kernel
theorem dL_lostIf_12 : decode cL_lostIf 12 = .ok (.goto 11, 3) := by decide +kernel
theorem dL_lostIf_15 : decode cL_lostIf 15 = .ok (.astore 5, 2) := by decide +kernel
theorem dL_lostIf_17 : decode cL_lostIf 17 = .ok (.iconst 1, 1) := by decide +kernel
theorem dL_lostIf_18 : decode cL_lostIf 18 = .ok (.ireturn, 1) := by decide +kernel
theorem dL_lostIf_19 : decode cL_lostIf 19 = .ok (.astore 5, 2) := by decide +kernel
theorem dL_lostIf_21 : decode cL_lostIf 21 = .ok (.iconst 2, 1) := by decide +kernel
theorem dL_lostIf_22 : decode cL_lostIf 22 = .ok (.ireturn, 1) := by decide +kernel
theorem dL_lostIf_23 : decode cL_lostIf 23 = .ok (.iconst 0, 1) := by decide +kernel
theorem dL_lostIf_24 : decode cL_lostIf 24 = .ok (.ireturn, 1) := by decide +kernel
set_option maxRecDepth 20000 in
theorem ggL_lostIfBySweeps_X8_lostIfBySweeps : GoodIn wsL_lostIfBySweeps wsX8_lostIfBySweeps := goodIn_ca (goodIn_ca (goodIn_r _ [7, 8, 9, 10, 11, 6, 12, 13, 14, 15, 16, 17, 18, 19, 20, 21, 22, 23, 24, 25, 26, 27, 28, 29, 30, 31, 32, 33, 34, 35, 36, 37, 38, 39, 40, 41, 42, 43, 44, 45, 46, 47, 48, 49, 50, 51, 52, 53, 54, 55, 56, 57, 58, 59, 60, 61, 62, 63, 64, 65, 66, 67, 68, 69, 70, 71, 72, 73, 74, 75, 76, 77, 78, 79, 80, 81, 82, 83, 84, 85, 86, 87, 88, 89, 90, 91, 92, 93, 94, 95, 96, 97, 98, 99, 100, 101, 102, 103, 104, 105, 106, 107, 108, 109, 110, 111, 112, 113, 114, 115, 116, 117] (by decide +kernel) (by decide +kernel)) (goodIn_sub (fun _ h => List.mem_cons_of_mem _ (List.mem_append_left _ (List.mem_append_right _ h))) (by decide +kernel))) (goodIn_sub (fun _ h => List.mem_cons_of_mem _ (List.mem_append_right _ h)) (by decide +kernel))
set_option maxRecDepth 20000 in
theorem gL_lostIfBySweeps_X8_lostIfBySweeps : GoodIn wsL_lostIfBySweeps (wsV RL 31 RX8 yX8_lostIfBySweeps wsX8_lostIfBySweeps) := goodIn_app (goodIn_of _ (by decide +kernel)) ggL_lostIfBySweeps_X8_lostIfBySweeps
theorem dL_lostIfBySweeps_0 : decode cL_lostIfBySweeps 0 = .ok (.aload 4, 2) := by decide +kernel
theorem dL_lostIfBySweeps_2 : decode cL_lostIfBySweeps 2 = .ok (.iconst 0, 1) := by decide +kernel
theorem dL_lostIfBySweeps_3 : decode cL_lostIfBySweeps 3 = .ok (.aload_n 0, 1) := by decide +kernel
theorem dL_lostIfBySweeps_4 : decode cL_lostIfBySweeps 4 = .ok (.iload_n 1, 1) := by decide +kernel
theorem dL_lostIfBySweeps_5 : decode cL_lostIfBySweeps 5 = .ok (.iload_n 2, 1) := by decide +kernel
theorem dL_lostIfBySweeps_6 : decode cL_lostIfBySweeps 6 = .ok (.iload_n 3, 1) := by decide +kernel
theorem dL_lostIfBySweeps_7 : decode cL_lostIfBySweeps 7 = .ok (.invokevirtual 31, 3) := by decide +kernel
theorem dL_lostIfBySweeps_10 : decode cL_lostIfBySweeps 10 = .ok (.i2l, 1) := by decide +kernel
theorem dL_lostIfBySweeps_11 : decode cL_lostIfBySweeps 11 = .ok (.lastore, 1) := by decide +kernel
theorem dL_lostIfBySweeps_12 : decode cL_lostIfBySweeps 12 = .ok (.goto 11, 3) := by decide +kernel
theorem dL_lostIfBySweeps_15 : decode cL_lostIfBySweeps 15 = .ok (.astore 5, 2) := by decide +kernel
theorem dL_lostIfBySweeps_17 : decode cL_lostIfBySweeps 17 = .ok (.iconst 1, 1) := by decide +kernel
theorem dL_lostIfBySweeps_18 : decode cL_lostIfBySweeps 18 = .ok (.ireturn, 1) := by decide +kernel
theorem dL_lostIfBySweeps_19 : decode cL_lostIfBySweeps 19 = .ok (.astore 5, 2) := by decide +kernel
theorem dL_lostIfBySweeps_21 : decode cL_lostIfBySweeps 21 = .ok (.iconst 2, 1) := by decide +kernel
theorem dL_lostIfBySweeps_22 : decode cL_lostIfBySweeps 22 = .ok (.ireturn, 1) := by decide +kernel
theorem dL_lostIfBySweeps_23 : decode cL_lostIfBySweeps 23 = .ok (.iconst 0, 1) := by decide +kernel
theorem dL_lostIfBySweeps_24 : decode cL_lostIfBySweeps 24 = .ok (.ireturn, 1) := by decide +kernel
set_option maxRecDepth 20000 in
theorem ggL_plant_X8_plant : GoodIn wsL_plant wsX8_plant := goodIn_ca (goodIn_ca (goodIn_r _ [7, 8, 9, 10, 11, 12, 6, 13, 14, 15, 16, 17, 18, 19, 20, 21, 22, 23, 24, 25, 26, 27, 28, 29, 30, 31, 32, 33, 34, 35, 36, 37, 38, 39, 40] (by decide +kernel) (by decide +kernel)) (goodIn_sub (fun _ h => List.mem_cons_of_mem _ (List.mem_append_left _ (List.mem_append_right _ h))) (by decide +kernel))) (goodIn_sub (fun _ h => List.mem_cons_of_mem _ (List.mem_append_right _ h)) (by decide +kernel))
set_option maxRecDepth 20000 in
theorem gL_plant_X8_plant : GoodIn wsL_plant (wsV RL 34 RX8 yX8_plant wsX8_plant) := goodIn_app (goodIn_of _ (by decide +kernel)) ggL_plant_X8_plant
theorem dL_plant_0 : decode cL_plant 0 = .ok (.aload_n 3, 1) := by decide +kernel
theorem dL_plant_1 : decode cL_plant 1 = .ok (.iconst 0, 1) := by decide +kernel
theorem dL_plant_2 : decode cL_plant 2 = .ok (.aload_n 0, 1) := by decide +kernel
theorem dL_plant_3 : decode cL_plant 3 = .ok (.iload_n 1, 1) := by decide +kernel
theorem dL_plant_4 : decode cL_plant 4 = .ok (.iload_n 2, 1) := by decide +kernel
theorem dL_plant_5 : decode cL_plant 5 = .ok (.invokevirtual 34, 3) := by decide +kernel
theorem dL_plant_8 : decode cL_plant 8 = .ok (.i2l, 1) := by decide +kernel
theorem dL_plant_9 : decode cL_plant 9 = .ok (.lastore, 1) := by decide +kernel
theorem dL_plant_10 : decode cL_plant 10 = .ok (.goto 11, 3) := by decide +kernel
theorem dL_plant_13 : decode cL_plant 13 = .ok (.astore 4, 2) := by decide +kernel
theorem dL_plant_15 : decode cL_plant 15 = .ok (.iconst 1, 1) := by decide +kernel
theorem dL_plant_16 : decode cL_plant 16 = .ok (.ireturn, 1) := by decide +kernel
theorem dL_plant_17 : decode cL_plant 17 = .ok (.astore 4, 2) := by decide +kernel
theorem dL_plant_19 : decode cL_plant 19 = .ok (.iconst 2, 1) := by decide +kernel
theorem dL_plant_20 : decode cL_plant 20 = .ok (.ireturn, 1) := by decide +kernel
theorem dL_plant_21 : decode cL_plant 21 = .ok (.iconst 0, 1) := by decide +kernel
theorem dL_plant_22 : decode cL_plant 22 = .ok (.ireturn, 1) := by decide +kernel
set_option maxRecDepth 20000 in
theorem ggL_uproot_X8_uproot : GoodIn wsL_uproot wsX8_uproot := goodIn_ca (goodIn_ca (goodIn_r _ [7, 8, 9, 10, 11, 12, 13, 6, 14, 15, 16, 17, 18, 19, 20, 21, 22, 23, 24, 25, 26, 27, 28, 29, 30, 31, 32, 33, 34, 35, 36, 37, 38, 39, 40, 41, 42, 43, 44, 45, 46, 47, 48, 49, 50, 51, 52, 53, 54, 55, 56, 57, 58, 59, 60, 61, 62, 63, 64, 65, 66, 67, 68, 69, 70, 71, 72, 73, 74, 75, 76, 77, 78, 79, 80, 81, 82, 83, 84, 85, 86, 87, 88, 89, 90, 91, 92, 93, 94, 95, 96, 97, 98, 99, 100, 101, 102, 103, 104, 105, 106, 107, 108, 109, 110, 111, 112, 113, 114, 115, 116, 117, 118, 119, 120, 121, 122, 123, 124, 125, 126, 127, 128, 129, 130, 131, 132, 133, 134, 135, 136, 137, 138, 139, 140, 141, 142, 143, 144, 145, 146, 147, 148, 149, 150, 151, 152, 153, 154, 155, 156, 157, 158, 159, 160, 161, 162, 163, 164, 165, 166, 167, 168, 169, 170, 171, 172] (by decide +kernel) (by decide +kernel)) (goodIn_sub (fun _ h => List.mem_cons_of_mem _ (List.mem_append_left _ (List.mem_append_right _ h))) (by decide +kernel))) (goodIn_sub (fun _ h => List.mem_cons_of_mem _ (List.mem_append_right _ h)) (by decide +kernel))
set_option maxRecDepth 20000 in
theorem gL_uproot_X8_uproot : GoodIn wsL_uproot (wsV RL 40 RX8 yX8_uproot wsX8_uproot) := goodIn_app (goodIn_of _ (by decide +kernel)) ggL_uproot_X8_uproot
theorem dL_uproot_0 : decode cL_uproot 0 = .ok (.aload_n 3, 1) := by decide +kernel
theorem dL_uproot_1 : decode cL_uproot 1 = .ok (.iconst 0, 1) := by decide +kernel
theorem dL_uproot_2 : decode cL_uproot 2 = .ok (.aload_n 0, 1) := by decide +kernel
theorem dL_uproot_3 : decode cL_uproot 3 = .ok (.iload_n 1, 1) := by decide +kernel
theorem dL_uproot_4 : decode cL_uproot 4 = .ok (.iload_n 2, 1) := by decide +kernel
theorem dL_uproot_5 : decode cL_uproot 5 = .ok (.invokevirtual 40, 3) := by decide +kernel
theorem dL_uproot_8 : decode cL_uproot 8 = .ok (.i2l, 1) := by decide +kernel
theorem dL_uproot_9 : decode cL_uproot 9 = .ok (.lastore, 1) := by decide +kernel
theorem dL_uproot_10 : decode cL_uproot 10 = .ok (.goto 11, 3) := by decide +kernel
theorem dL_uproot_13 : decode cL_uproot 13 = .ok (.astore 4, 2) := by decide +kernel
theorem dL_uproot_15 : decode cL_uproot 15 = .ok (.iconst 1, 1) := by decide +kernel
theorem dL_uproot_16 : decode cL_uproot 16 = .ok (.ireturn, 1) := by decide +kernel
theorem dL_uproot_17 : decode cL_uproot 17 = .ok (.astore 4, 2) := by decide +kernel
theorem dL_uproot_19 : decode cL_uproot 19 = .ok (.iconst 2, 1) := by decide +kernel
theorem dL_uproot_20 : decode cL_uproot 20 = .ok (.ireturn, 1) := by decide +kernel
theorem dL_uproot_21 : decode cL_uproot 21 = .ok (.iconst 0, 1) := by decide +kernel
theorem dL_uproot_22 : decode cL_uproot 22 = .ok (.ireturn, 1) := by decide +kernel
set_option maxRecDepth 20000 in
theorem ggL_addWall_X8_addWall : GoodIn wsL_addWall wsX8_addWall := goodIn_ca (goodIn_ca (goodIn_ca (goodIn_ca (goodIn_r _ [9, 10, 11, 12, 13, 14, 15, 16, 17, 18, 8, 19, 20, 21, 22, 23, 24, 25, 26, 27, 28, 29, 30, 31, 32, 33, 34, 35, 36, 37, 38, 39, 40, 41, 42, 43, 44, 45, 46, 47, 48, 49, 50, 51, 52, 53, 54, 55, 56, 57, 58, 59, 60, 61, 62, 63, 64, 65, 66, 67, 68, 69, 70, 71, 72, 73, 74, 75, 76, 77, 78, 79, 80, 81, 82, 83, 84, 85, 86, 87, 88, 89, 90, 91, 92, 93, 94, 95, 96, 97, 98, 99, 100, 101, 102, 103, 104, 105, 106, 107, 108, 109, 110, 111, 112, 113, 114, 115, 116, 117, 118, 119, 120, 121, 122, 123, 124, 125, 126, 127, 128, 129, 130, 131, 132, 133] (by decide +kernel) (by decide +kernel)) (goodIn_sub (fun _ h => List.mem_cons_of_mem _ (List.mem_append_left _ (List.mem_append_left _ (List.mem_append_left _ (List.mem_append_right _ h))))) (by decide +kernel))) (goodIn_sub (fun _ h => List.mem_cons_of_mem _ (List.mem_append_left _ (List.mem_append_left _ (List.mem_append_right _ h)))) (by decide +kernel))) (goodIn_sub (fun _ h => List.mem_cons_of_mem _ (List.mem_append_left _ (List.mem_append_right _ h))) (by decide +kernel))) (goodIn_sub (fun _ h => List.mem_cons_of_mem _ (List.mem_append_right _ h)) (by decide +kernel))
set_option maxRecDepth 20000 in
theorem gL_addWall_X8_addWall : GoodIn wsL_addWall (wsV RL 43 RX8 yX8_addWall wsX8_addWall) := goodIn_app (goodIn_of _ (by decide +kernel)) ggL_addWall_X8_addWall
theorem dL_addWall_0 : decode cL_addWall 0 = .ok (.aload 4, 2) := by decide +kernel
theorem dL_addWall_2 : decode cL_addWall 2 = .ok (.iconst 0, 1) := by decide +kernel
theorem dL_addWall_3 : decode cL_addWall 3 = .ok (.aload_n 0, 1) := by decide +kernel
theorem dL_addWall_4 : decode cL_addWall 4 = .ok (.iload_n 1, 1) := by decide +kernel
theorem dL_addWall_5 : decode cL_addWall 5 = .ok (.iload_n 2, 1) := by decide +kernel
theorem dL_addWall_6 : decode cL_addWall 6 = .ok (.iload_n 3, 1) := by decide +kernel
theorem dL_addWall_7 : decode cL_addWall 7 = .ok (.invokevirtual 43, 3) := by decide +kernel
theorem dL_addWall_10 : decode cL_addWall 10 = .ok (.i2l, 1) := by decide +kernel
theorem dL_addWall_11 : decode cL_addWall 11 = .ok (.lastore, 1) := by decide +kernel
theorem dL_addWall_12 : decode cL_addWall 12 = .ok (.goto 19, 3) := by decide +kernel
theorem dL_addWall_15 : decode cL_addWall 15 = .ok (.astore 5, 2) := by decide +kernel
theorem dL_addWall_17 : decode cL_addWall 17 = .ok (.iconst 1, 1) := by decide +kernel
theorem dL_addWall_18 : decode cL_addWall 18 = .ok (.ireturn, 1) := by decide +kernel
theorem dL_addWall_19 : decode cL_addWall 19 = .ok (.astore 5, 2) := by decide +kernel
theorem dL_addWall_21 : decode cL_addWall 21 = .ok (.iconst 2, 1) := by decide +kernel
theorem dL_addWall_22 : decode cL_addWall 22 = .ok (.ireturn, 1) := by decide +kernel
theorem dL_addWall_23 : decode cL_addWall 23 = .ok (.astore 5, 2) := by decide +kernel
theorem dL_addWall_25 : decode cL_addWall 25 = .ok (.iconst 3, 1) := by decide +kernel
theorem dL_addWall_26 : decode cL_addWall 26 = .ok (.ireturn, 1) := by decide +kernel
theorem dL_addWall_27 : decode cL_addWall 27 = .ok (.astore 5, 2) := by decide +kernel
theorem dL_addWall_29 : decode cL_addWall 29 = .ok (.iconst 4, 1) := by decide +kernel
theorem dL_addWall_30 : decode cL_addWall 30 = .ok (.ireturn, 1) := by decide +kernel
theorem dL_addWall_31 : decode cL_addWall 31 = .ok (.iconst 0, 1) := by decide +kernel
theorem dL_addWall_32 : decode cL_addWall 32 = .ok (.ireturn, 1) := by decide +kernel
set_option maxRecDepth 20000 in
theorem ggL_removeWall_X8_removeWall : GoodIn wsL_removeWall wsX8_removeWall := goodIn_ca (goodIn_ca (goodIn_ca (goodIn_r _ [8, 9, 10, 11, 12, 13, 7, 14, 15, 16, 17, 18, 19, 20, 21, 22, 23, 24, 25, 26, 27, 28, 29, 30, 31, 32, 33, 34, 35, 36, 37, 38, 39, 40, 41, 42, 43, 44, 45, 46, 47, 48, 49, 50, 51, 52, 53, 54, 55, 56, 57, 58, 59, 60, 61, 62, 63, 64, 65, 66, 67, 68, 69, 70, 71, 72] (by decide +kernel) (by decide +kernel)) (goodIn_sub (fun _ h => List.mem_cons_of_mem _ (List.mem_append_left _ (List.mem_append_left _ (List.mem_append_right _ h)))) (by decide +kernel))) (goodIn_sub (fun _ h => List.mem_cons_of_mem _ (List.mem_append_left _ (List.mem_append_right _ h))) (by decide +kernel))) (goodIn_sub (fun _ h => List.mem_cons_of_mem _ (List.mem_append_right _ h)) (by decide +kernel))
set_option maxRecDepth 20000 in
theorem gL_removeWall_X8_removeWall : GoodIn wsL_removeWall (wsV RL 49 RX8 yX8_removeWall wsX8_removeWall) := goodIn_app (goodIn_of _ (by decide +kernel)) ggL_removeWall_X8_removeWall
theorem dL_removeWall_0 : decode cL_removeWall 0 = .ok (.aload 4, 2) := by decide +kernel
theorem dL_removeWall_2 : decode cL_removeWall 2 = .ok (.iconst 0, 1) := by decide +kernel
theorem dL_removeWall_3 : decode cL_removeWall 3 = .ok (.aload_n 0, 1) := by decide +kernel
theorem dL_removeWall_4 : decode cL_removeWall 4 = .ok (.iload_n 1, 1) := by decide +kernel
theorem dL_removeWall_5 : decode cL_removeWall 5 = .ok (.iload_n 2, 1) := by decide +kernel
theorem dL_removeWall_6 : decode cL_removeWall 6 = .ok (.iload_n 3, 1) := by decide +kernel
theorem dL_removeWall_7 : decode cL_removeWall 7 = .ok (.invokevirtual 49, 3) := by decide +kernel
theorem dL_removeWall_10 : decode cL_removeWall 10 = .ok (.i2l, 1) := by decide +kernel
theorem dL_removeWall_11 : decode cL_removeWall 11 = .ok (.lastore, 1) := by decide +kernel
theorem dL_removeWall_12 : decode cL_removeWall 12 = .ok (.goto 15, 3) := by decide +kernel
theorem dL_removeWall_15 : decode cL_removeWall 15 = .ok (.astore 5, 2) := by decide +kernel
theorem dL_removeWall_17 : decode cL_removeWall 17 = .ok (.iconst 1, 1) := by decide +kernel
theorem dL_removeWall_18 : decode cL_removeWall 18 = .ok (.ireturn, 1) := by decide +kernel
theorem dL_removeWall_19 : decode cL_removeWall 19 = .ok (.astore 5, 2) := by decide +kernel
theorem dL_removeWall_21 : decode cL_removeWall 21 = .ok (.iconst 2, 1) := by decide +kernel
theorem dL_removeWall_22 : decode cL_removeWall 22 = .ok (.ireturn, 1) := by decide +kernel
theorem dL_removeWall_23 : decode cL_removeWall 23 = .ok (.astore 5, 2) := by decide +kernel
theorem dL_removeWall_25 : decode cL_removeWall 25 = .ok (.iconst 3, 1) := by decide +kernel
theorem dL_removeWall_26 : decode cL_removeWall 26 = .ok (.ireturn, 1) := by decide +kernel
theorem dL_removeWall_27 : decode cL_removeWall 27 = .ok (.iconst 0, 1) := by decide +kernel
theorem dL_removeWall_28 : decode cL_removeWall 28 = .ok (.ireturn, 1) := by decide +kernel
set_option maxRecDepth 20000 in
theorem ggL_isClosed_X8_isClosed : GoodIn wsL_isClosed wsX8_isClosed := goodIn_ca (goodIn_ca (goodIn_r _ [7, 8, 9, 10, 6, 11, 12, 13, 14, 15, 16, 17, 18, 19, 20, 21, 22, 23, 24, 25, 26, 27, 28, 29, 30, 31, 32, 33, 34, 35, 36, 37, 38, 39, 40, 41, 42, 43, 44, 45, 46, 47, 48, 49] (by decide +kernel) (by decide +kernel)) (goodIn_sub (fun _ h => List.mem_cons_of_mem _ (List.mem_append_left _ (List.mem_append_right _ h))) (by decide +kernel))) (goodIn_sub (fun _ h => List.mem_cons_of_mem _ (List.mem_append_right _ h)) (by decide +kernel))
set_option maxRecDepth 20000 in
theorem gL_isClosed_X8_isClosed : GoodIn wsL_isClosed (wsV RL 52 RX8 yX8_isClosed wsX8_isClosed) := goodIn_app (goodIn_of _ (by decide +kernel)) ggL_isClosed_X8_isClosed
theorem dL_isClosed_0 : decode cL_isClosed 0 = .ok (.aload 4, 2) := by decide +kernel
theorem dL_isClosed_2 : decode cL_isClosed 2 = .ok (.iconst 0, 1) := by decide +kernel
theorem dL_isClosed_3 : decode cL_isClosed 3 = .ok (.aload_n 0, 1) := by decide +kernel
theorem dL_isClosed_4 : decode cL_isClosed 4 = .ok (.iload_n 1, 1) := by decide +kernel
theorem dL_isClosed_5 : decode cL_isClosed 5 = .ok (.iload_n 2, 1) := by decide +kernel
theorem dL_isClosed_6 : decode cL_isClosed 6 = .ok (.iload_n 3, 1) := by decide +kernel
theorem dL_isClosed_7 : decode cL_isClosed 7 = .ok (.invokevirtual 52, 3) := by decide +kernel
theorem dL_isClosed_10 : decode cL_isClosed 10 = .ok (.ifCond .eq 7, 3) := by decide +kernel
theorem dL_isClosed_13 : decode cL_isClosed 13 = .ok (.lconst 1, 1) := by decide +kernel
theorem dL_isClosed_14 : decode cL_isClosed 14 = .ok (.goto 4, 3) := by decide +kernel
theorem dL_isClosed_17 : decode cL_isClosed 17 = .ok (.lconst 0, 1) := by decide +kernel
theorem dL_isClosed_18 : decode cL_isClosed 18 = .ok (.lastore, 1) := by decide +kernel
theorem dL_isClosed_19 : decode cL_isClosed 19 = .ok (.goto 11, 3) := by decide +kernel
theorem dL_isClosed_22 : decode cL_isClosed 22 = .ok (.astore 5, 2) := by decide +kernel
theorem dL_isClosed_24 : decode cL_isClosed 24 = .ok (.iconst 1, 1) := by decide +kernel
theorem dL_isClosed_25 : decode cL_isClosed 25 = .ok (.ireturn, 1) := by decide +kernel
theorem dL_isClosed_26 : decode cL_isClosed 26 = .ok (.astore 5, 2) := by decide +kernel
theorem dL_isClosed_28 : decode cL_isClosed 28 = .ok (.iconst 2, 1) := by decide +kernel
theorem dL_isClosed_29 : decode cL_isClosed 29 = .ok (.ireturn, 1) := by decide +kernel
theorem dL_isClosed_30 : decode cL_isClosed 30 = .ok (.iconst 0, 1) := by decide +kernel
theorem dL_isClosed_31 : decode cL_isClosed 31 = .ok (.ireturn, 1) := by decide +kernel
set_option maxRecDepth 20000 in
theorem ggL_isPlanted_X8_isPlanted : GoodIn wsL_isPlanted wsX8_isPlanted := goodIn_ca (goodIn_r _ [6, 7, 8, 9, 5, 10, 11, 12, 13, 14, 15, 16, 17, 18, 19, 20, 21, 22, 23, 24, 25, 26, 27, 28, 29] (by decide +kernel) (by decide +kernel)) (goodIn_sub (fun _ h => List.mem_cons_of_mem _ (List.mem_append_right _ h)) (by decide +kernel))
set_option maxRecDepth 20000 in
theorem gL_isPlanted_X8_isPlanted : GoodIn wsL_isPlanted (wsV RL 56 RX8 yX8_isPlanted wsX8_isPlanted) := goodIn_app (goodIn_of _ (by decide +kernel)) ggL_isPlanted_X8_isPlanted
theorem dL_isPlanted_0 : decode cL_isPlanted 0 = .ok (.aload_n 3, 1) := by decide +kernel
theorem dL_isPlanted_1 : decode cL_isPlanted 1 = .ok (.iconst 0, 1) := by decide +kernel
theorem dL_isPlanted_2 : decode cL_isPlanted 2 = .ok (.aload_n 0, 1) := by decide +kernel
theorem dL_isPlanted_3 : decode cL_isPlanted 3 = .ok (.iload_n 1, 1) := by decide +kernel
theorem dL_isPlanted_4 : decode cL_isPlanted 4 = .ok (.iload_n 2, 1) := by decide +kernel
theorem dL_isPlanted_5 : decode cL_isPlanted 5 = .ok (.invokevirtual 56, 3) := by decide +kernel
theorem dL_isPlanted_8 : decode cL_isPlanted 8 = .ok (.ifCond .eq 7, 3) := by decide +kernel
theorem dL_isPlanted_11 : decode cL_isPlanted 11 = .ok (.lconst 1, 1) := by decide +kernel
theorem dL_isPlanted_12 : decode cL_isPlanted 12 = .ok (.goto 4, 3) := by decide +kernel
theorem dL_isPlanted_15 : decode cL_isPlanted 15 = .ok (.lconst 0, 1) := by decide +kernel
theorem dL_isPlanted_16 : decode cL_isPlanted 16 = .ok (.lastore, 1) := by decide +kernel
theorem dL_isPlanted_17 : decode cL_isPlanted 17 = .ok (.goto 7, 3) := by decide +kernel
theorem dL_isPlanted_20 : decode cL_isPlanted 20 = .ok (.astore 4, 2) := by decide +kernel
theorem dL_isPlanted_22 : decode cL_isPlanted 22 = .ok (.iconst 1, 1) := by decide +kernel
theorem dL_isPlanted_23 : decode cL_isPlanted 23 = .ok (.ireturn, 1) := by decide +kernel
theorem dL_isPlanted_24 : decode cL_isPlanted 24 = .ok (.iconst 0, 1) := by decide +kernel
theorem dL_isPlanted_25 : decode cL_isPlanted 25 = .ok (.ireturn, 1) := by decide +kernel
set_option maxRecDepth 20000 in
theorem ggL_wave_X8_wave : GoodIn wsL_wave wsX8_wave := goodIn_ca (goodIn_ca (goodIn_r _ [7, 8, 9, 10, 11, 6, 12, 13, 14, 15, 16, 17, 18, 19, 20, 21, 22, 23, 24, 25, 26, 27, 28, 29, 30, 31, 32, 33, 34, 35, 36, 37, 38, 39, 40, 41, 42, 43, 44, 45, 46, 47, 48, 49, 50, 51, 52, 53, 54, 55, 56, 57, 58, 59, 60, 61, 62, 63, 64, 65, 66, 67, 68, 69, 70, 71, 72, 73, 74, 75, 76, 77, 78, 79, 80, 81, 82, 83, 84, 85, 86, 87, 88, 89, 90, 91, 92, 93, 94, 95, 96, 97, 98, 99, 100, 101, 102, 103, 104, 105, 106, 107, 108, 109, 110, 111, 112, 113, 114, 115, 116, 117, 118, 119, 120, 121, 122, 123, 124, 125, 126, 127, 128, 129, 130, 131, 132, 133, 134, 135, 136, 137, 138, 139, 140, 141, 142, 143, 144, 145, 146, 147, 148, 149, 150, 151, 152, 153, 154, 155, 156, 157, 158, 159, 160, 161, 162, 163, 164, 165, 166, 167, 168, 169, 170, 171, 172, 173, 174, 175, 176, 177, 178, 179, 180, 181, 182, 183, 184, 185, 186, 187, 188, 189, 190, 191, 192, 193, 194, 195, 196, 197, 198, 199, 200, 201, 202, 203, 204, 205, 206, 207, 208, 209, 210, 211, 212, 213, 214, 215] (by decide +kernel) (by decide +kernel)) (goodIn_sub (fun _ h => List.mem_cons_of_mem _ (List.mem_append_left _ (List.mem_append_right _ h))) (by decide +kernel))) (goodIn_sub (fun _ h => List.mem_cons_of_mem _ (List.mem_append_right _ h)) (by decide +kernel))
set_option maxRecDepth 20000 in
theorem gL_wave_X8_wave : GoodIn wsL_wave (wsV RL 60 RX8 yX8_wave wsX8_wave) := goodIn_app (goodIn_of _ (by decide +kernel)) ggL_wave_X8_wave
theorem dL_wave_0 : decode cL_wave 0 = .ok (.aload_n 3, 1) := by decide +kernel
theorem dL_wave_1 : decode cL_wave 1 = .ok (.iconst 0, 1) := by decide +kernel
theorem dL_wave_2 : decode cL_wave 2 = .ok (.aload_n 0, 1) := by decide +kernel
theorem dL_wave_3 : decode cL_wave 3 = .ok (.iload_n 1, 1) := by decide +kernel
theorem dL_wave_4 : decode cL_wave 4 = .ok (.iload_n 2, 1) := by decide +kernel
theorem dL_wave_5 : decode cL_wave 5 = .ok (.invokevirtual 60, 3) := by decide +kernel
theorem dL_wave_8 : decode cL_wave 8 = .ok (.i2l, 1) := by decide +kernel
theorem dL_wave_9 : decode cL_wave 9 = .ok (.lastore, 1) := by decide +kernel
theorem dL_wave_10 : decode cL_wave 10 = .ok (.goto 11, 3) := by decide +kernel
theorem dL_wave_13 : decode cL_wave 13 = .ok (.astore 4, 2) := by decide +kernel
theorem dL_wave_15 : decode cL_wave 15 = .ok (.iconst 1, 1) := by decide +kernel
theorem dL_wave_16 : decode cL_wave 16 = .ok (.ireturn, 1) := by decide +kernel
theorem dL_wave_17 : decode cL_wave 17 = .ok (.astore 4, 2) := by decide +kernel
theorem dL_wave_19 : decode cL_wave 19 = .ok (.iconst 2, 1) := by decide +kernel
theorem dL_wave_20 : decode cL_wave 20 = .ok (.ireturn, 1) := by decide +kernel
theorem dL_wave_21 : decode cL_wave 21 = .ok (.iconst 0, 1) := by decide +kernel
theorem dL_wave_22 : decode cL_wave 22 = .ok (.ireturn, 1) := by decide +kernel
set_option maxRecDepth 20000 in
theorem ggL_wind_X8_wind : GoodIn wsL_wind wsX8_wind := goodIn_ca (goodIn_r _ [6, 7, 8, 9, 10, 11, 12, 13, 5, 14, 15, 16, 17, 18, 19, 20, 21, 22, 23, 24, 25, 26, 27, 28, 29, 30, 31, 32, 33, 34, 35, 36, 37, 38, 39, 40, 41, 42, 43, 44, 45, 46, 47, 48, 49, 50, 51, 52, 53, 54, 55, 56, 57, 58, 59, 60, 61, 62, 63, 64, 65, 66, 67, 68, 69, 70, 71, 72, 73, 74, 75, 76, 77, 78, 79, 80, 81, 82, 83, 84, 85, 86, 87, 88, 89, 90, 91, 92, 93, 94, 95, 96, 97, 98, 99, 100, 101, 102, 103, 104, 105, 106, 107, 108, 109, 110, 111, 112, 113, 114, 115, 116, 117, 118, 119, 120, 121, 122, 123, 124, 125, 126, 127, 128, 129, 130, 131, 132, 133, 134, 135, 136, 137, 138, 139, 140, 141, 142, 143, 144, 145, 146, 147, 148, 149, 150, 151, 152, 153, 154, 155, 156, 157, 158, 159, 160, 161, 162, 163, 164, 165, 166, 167, 168, 169, 170, 171, 172, 173, 174, 175, 176, 177] (by decide +kernel) (by decide +kernel)) (goodIn_sub (fun _ h => List.mem_cons_of_mem _ (List.mem_append_right _ h)) (by decide +kernel))
set_option maxRecDepth 20000 in
theorem gL_wind_X8_wind : GoodIn wsL_wind (wsV RL 63 RX8 yX8_wind wsX8_wind) := goodIn_app (goodIn_of _ (by decide +kernel)) ggL_wind_X8_wind
theorem dL_wind_0 : decode cL_wind 0 = .ok (.aload_n 2, 1) := by decide +kernel
theorem dL_wind_1 : decode cL_wind 1 = .ok (.iconst 0, 1) := by decide +kernel
theorem dL_wind_2 : decode cL_wind 2 = .ok (.aload_n 0, 1) := by decide +kernel
theorem dL_wind_3 : decode cL_wind 3 = .ok (.iload_n 1, 1) := by decide +kernel
theorem dL_wind_4 : decode cL_wind 4 = .ok (.invokevirtual 63, 3) := by decide +kernel
theorem dL_wind_7 : decode cL_wind 7 = .ok (.i2l, 1) := by decide +kernel
theorem dL_wind_8 : decode cL_wind 8 = .ok (.lastore, 1) := by decide +kernel
theorem dL_wind_9 : decode cL_wind 9 = .ok (.goto 6, 3) := by decide +kernel
theorem dL_wind_12 : decode cL_wind 12 = .ok (.astore_n 3, 1) := by decide +kernel
theorem dL_wind_13 : decode cL_wind 13 = .ok (.iconst 1, 1) := by decide +kernel
theorem dL_wind_14 : decode cL_wind 14 = .ok (.ireturn, 1) := by decide +kernel
theorem dL_wind_15 : decode cL_wind 15 = .ok (.iconst 0, 1) := by decide +kernel
theorem dL_wind_16 : decode cL_wind 16 = .ok (.ireturn, 1) := by decide +kernel
set_option maxRecDepth 20000 in
theorem ggL_addStep_X8_addStep : GoodIn wsL_addStep wsX8_addStep := goodIn_ca (goodIn_ca (goodIn_ca (goodIn_r _ [8, 9, 10, 11, 12, 13, 7, 14, 15, 16, 17, 18, 19, 20, 21, 22, 23, 24, 25, 26, 27, 28, 29, 30, 31, 32, 33, 34, 35, 36, 37, 38, 39, 40, 41, 42, 43, 44, 45, 46] (by decide +kernel) (by decide +kernel)) (goodIn_sub (fun _ h => List.mem_cons_of_mem _ (List.mem_append_left _ (List.mem_append_left _ (List.mem_append_right _ h)))) (by decide +kernel))) (goodIn_sub (fun _ h => List.mem_cons_of_mem _ (List.mem_append_left _ (List.mem_append_right _ h))) (by decide +kernel))) (goodIn_sub (fun _ h => List.mem_cons_of_mem _ (List.mem_append_right _ h)) (by decide +kernel))
set_option maxRecDepth 20000 in
theorem gL_addStep_X8_addStep : GoodIn wsL_addStep (wsV RL 67 RX8 yX8_addStep wsX8_addStep) := goodIn_app (goodIn_of _ (by decide +kernel)) ggL_addStep_X8_addStep
theorem dL_addStep_0 : decode cL_addStep 0 = .ok (.aload_n 3, 1) := by decide +kernel
theorem dL_addStep_1 : decode cL_addStep 1 = .ok (.iconst 0, 1) := by decide +kernel
theorem dL_addStep_2 : decode cL_addStep 2 = .ok (.aload_n 0, 1) := by decide +kernel
theorem dL_addStep_3 : decode cL_addStep 3 = .ok (.iload_n 1, 1) := by decide +kernel
theorem dL_addStep_4 : decode cL_addStep 4 = .ok (.iload_n 2, 1) := by decide +kernel
theorem dL_addStep_5 : decode cL_addStep 5 = .ok (.invokevirtual 67, 3) := by decide +kernel
theorem dL_addStep_8 : decode cL_addStep 8 = .ok (.i2l, 1) := by decide +kernel
theorem dL_addStep_9 : decode cL_addStep 9 = .ok (.lastore, 1) := by decide +kernel
theorem dL_addStep_10 : decode cL_addStep 10 = .ok (.goto 15, 3) := by decide +kernel
theorem dL_addStep_13 : decode cL_addStep 13 = .ok (.astore 4, 2) := by decide +kernel
theorem dL_addStep_15 : decode cL_addStep 15 = .ok (.iconst 1, 1) := by decide +kernel
theorem dL_addStep_16 : decode cL_addStep 16 = .ok (.ireturn, 1) := by decide +kernel
theorem dL_addStep_17 : decode cL_addStep 17 = .ok (.astore 4, 2) := by decide +kernel
theorem dL_addStep_19 : decode cL_addStep 19 = .ok (.iconst 2, 1) := by decide +kernel
theorem dL_addStep_20 : decode cL_addStep 20 = .ok (.ireturn, 1) := by decide +kernel
theorem dL_addStep_21 : decode cL_addStep 21 = .ok (.astore 4, 2) := by decide +kernel
theorem dL_addStep_23 : decode cL_addStep 23 = .ok (.iconst 3, 1) := by decide +kernel
theorem dL_addStep_24 : decode cL_addStep 24 = .ok (.ireturn, 1) := by decide +kernel
theorem dL_addStep_25 : decode cL_addStep 25 = .ok (.iconst 0, 1) := by decide +kernel
theorem dL_addStep_26 : decode cL_addStep 26 = .ok (.ireturn, 1) := by decide +kernel
set_option maxRecDepth 20000 in
theorem ggL_storm_X8_storm : GoodIn wsL_storm wsX8_storm := goodIn_ca (goodIn_ca (goodIn_r _ [7, 8, 9, 10, 11, 12, 13, 14, 15, 16, 17, 18, 19, 20, 21, 22, 23, 24, 25, 26, 27, 28, 29, 30, 31, 32, 33, 34, 35, 6, 36, 37, 38, 39, 40, 41, 42, 43, 44, 45, 46, 47, 48, 49, 50, 51, 52, 53, 54, 55, 56, 57, 58, 59, 60, 61, 62, 63, 64, 65, 66, 67, 68, 69, 70, 71, 72, 73, 74, 75, 76, 77, 78, 79, 80, 81, 82, 83, 84, 85, 86, 87, 88, 89, 90, 91, 92, 93, 94, 95, 96, 97, 98, 99, 100, 101, 102, 103, 104, 105, 106, 107, 108, 109, 110, 111, 112, 113, 114, 115, 116, 117, 118, 119, 120, 121, 122, 123, 124, 125, 126, 127, 128, 129, 130, 131, 132, 133, 134, 135, 136, 137, 138, 139, 140, 141, 142, 143, 144, 145, 146, 147, 148, 149, 150, 151, 152, 153, 154, 155, 156, 157, 158, 159, 160, 161, 162, 163, 164, 165, 166, 167, 168, 169, 170, 171, 172, 173, 174, 175, 176, 177, 178, 179, 180, 181, 182, 183, 184, 185, 186, 187, 188, 189, 190, 191, 192, 193, 194, 195, 196, 197, 198, 199, 200, 201, 202, 203, 204, 205, 206, 207, 208, 209, 210, 211, 212, 213, 214] (by decide +kernel) (by decide +kernel)) (goodIn_sub (fun _ h => List.mem_cons_of_mem _ (List.mem_append_left _ (List.mem_append_right _ h))) (by decide +kernel))) (goodIn_sub (fun _ h => List.mem_cons_of_mem _ (List.mem_append_right _ h)) (by decide +kernel))
set_option maxRecDepth 20000 in
theorem gL_storm_X8_storm : GoodIn wsL_storm (wsV RL 70 RX8 yX8_storm wsX8_storm) := goodIn_app (goodIn_of _ (by decide +kernel)) ggL_storm_X8_storm
theorem dL_storm_0 : decode cL_storm 0 = .ok (.aload_n 2, 1) := by decide +kernel
theorem dL_storm_1 : decode cL_storm 1 = .ok (.iconst 0, 1) := by decide +kernel
theorem dL_storm_2 : decode cL_storm 2 = .ok (.aload_n 0, 1) := by decide +kernel
theorem dL_storm_3 : decode cL_storm 3 = .ok (.iload_n 1, 1) := by decide +kernel
theorem dL_storm_4 : decode cL_storm 4 = .ok (.invokevirtual 70, 3) := by decide +kernel
theorem dL_storm_7 : decode cL_storm 7 = .ok (.i2l, 1) := by decide +kernel
theorem dL_storm_8 : decode cL_storm 8 = .ok (.lastore, 1) := by decide +kernel
theorem dL_storm_9 : decode cL_storm 9 = .ok (.goto 9, 3) := by decide +kernel
theorem dL_storm_12 : decode cL_storm 12 = .ok (.astore_n 3, 1) := by decide +kernel
theorem dL_storm_13 : decode cL_storm 13 = .ok (.iconst 1, 1) := by decide +kernel
theorem dL_storm_14 : decode cL_storm 14 = .ok (.ireturn, 1) := by decide +kernel
theorem dL_storm_15 : decode cL_storm 15 = .ok (.astore_n 3, 1) := by decide +kernel
theorem dL_storm_16 : decode cL_storm 16 = .ok (.iconst 2, 1) := by decide +kernel
theorem dL_storm_17 : decode cL_storm 17 = .ok (.ireturn, 1) := by decide +kernel
theorem dL_storm_18 : decode cL_storm 18 = .ok (.iconst 0, 1) := by decide +kernel
theorem dL_storm_19 : decode cL_storm 19 = .ok (.ireturn, 1) := by decide +kernel
set_option maxRecDepth 20000 in
theorem ggL_height_X8_height : GoodIn wsL_height wsX8_height := goodIn_ca (goodIn_r _ [6, 7, 8, 9, 5, 10, 11, 12, 13, 14, 15, 16, 17, 18, 19, 20, 21, 22, 23, 24, 25, 26, 27, 28, 29, 30, 31, 32, 33, 34, 35, 36, 37] (by decide +kernel) (by decide +kernel)) (goodIn_sub (fun _ h => List.mem_cons_of_mem _ (List.mem_append_right _ h)) (by decide +kernel))
set_option maxRecDepth 20000 in
theorem gL_height_X8_height : GoodIn wsL_height (wsV RL 73 RX8 yX8_height wsX8_height) := goodIn_app (goodIn_of _ (by decide +kernel)) ggL_height_X8_height
theorem dL_height_0 : decode cL_height 0 = .ok (.aload_n 3, 1) := by decide +kernel
theorem dL_height_1 : decode cL_height 1 = .ok (.iconst 0, 1) := by decide +kernel
theorem dL_height_2 : decode cL_height 2 = .ok (.aload_n 0, 1) := by decide +kernel
theorem dL_height_3 : decode cL_height 3 = .ok (.iload_n 1, 1) := by decide +kernel
theorem dL_height_4 : decode cL_height 4 = .ok (.iload_n 2, 1) := by decide +kernel
theorem dL_height_5 : decode cL_height 5 = .ok (.invokevirtual 73, 3) := by decide +kernel
theorem dL_height_8 : decode cL_height 8 = .ok (.i2l, 1) := by decide +kernel
theorem dL_height_9 : decode cL_height 9 = .ok (.lastore, 1) := by decide +kernel
theorem dL_height_10 : decode cL_height 10 = .ok (.goto 7, 3) := by decide +kernel
theorem dL_height_13 : decode cL_height 13 = .ok (.astore 4, 2) := by decide +kernel
theorem dL_height_15 : decode cL_height 15 = .ok (.iconst 1, 1) := by decide +kernel
theorem dL_height_16 : decode cL_height 16 = .ok (.ireturn, 1) := by decide +kernel
theorem dL_height_17 : decode cL_height 17 = .ok (.iconst 0, 1) := by decide +kernel
theorem dL_height_18 : decode cL_height 18 = .ok (.ireturn, 1) := by decide +kernel
set_option maxRecDepth 20000 in
theorem ggL_heightByFlows_X8_heightByFlows : GoodIn wsL_heightByFlows wsX8_heightByFlows := goodIn_ca (goodIn_r _ [6, 7, 8, 9, 5, 10, 11, 12, 13, 14, 15, 16, 17, 18, 19, 20, 21, 22, 23, 24, 25, 26, 27, 28, 29, 30, 31, 32, 33, 34, 35, 36, 37, 38, 39, 40] (by decide +kernel) (by decide +kernel)) (goodIn_sub (fun _ h => List.mem_cons_of_mem _ (List.mem_append_right _ h)) (by decide +kernel))
set_option maxRecDepth 20000 in
theorem gL_heightByFlows_X8_heightByFlows : GoodIn wsL_heightByFlows (wsV RL 76 RX8 yX8_heightByFlows wsX8_heightByFlows) := goodIn_app (goodIn_of _ (by decide +kernel)) ggL_heightByFlows_X8_heightByFlows
theorem dL_heightByFlows_0 : decode cL_heightByFlows 0 = .ok (.aload_n 3, 1) := by decide +kernel
theorem dL_heightByFlows_1 : decode cL_heightByFlows 1 = .ok (.iconst 0, 1) := by decide +kernel
theorem dL_heightByFlows_2 : decode cL_heightByFlows 2 = .ok (.aload_n 0, 1) := by decide +kernel
theorem dL_heightByFlows_3 : decode cL_heightByFlows 3 = .ok (.iload_n 1, 1) := by decide +kernel
theorem dL_heightByFlows_4 : decode cL_heightByFlows 4 = .ok (.iload_n 2, 1) := by decide +kernel
theorem dL_heightByFlows_5 : decode cL_heightByFlows 5 = .ok (.invokevirtual 76, 3) := by decide +kernel
theorem dL_heightByFlows_8 : decode cL_heightByFlows 8 = .ok (.i2l, 1) := by decide +kernel
theorem dL_heightByFlows_9 : decode cL_heightByFlows 9 = .ok (.lastore, 1) := by decide +kernel
theorem dL_heightByFlows_10 : decode cL_heightByFlows 10 = .ok (.goto 7, 3) := by decide +kernel
theorem dL_heightByFlows_13 : decode cL_heightByFlows 13 = .ok (.astore 4, 2) := by decide +kernel
theorem dL_heightByFlows_15 : decode cL_heightByFlows 15 = .ok (.iconst 1, 1) := by decide +kernel
theorem dL_heightByFlows_16 : decode cL_heightByFlows 16 = .ok (.ireturn, 1) := by decide +kernel
theorem dL_heightByFlows_17 : decode cL_heightByFlows 17 = .ok (.iconst 0, 1) := by decide +kernel
theorem dL_heightByFlows_18 : decode cL_heightByFlows 18 = .ok (.ireturn, 1) := by decide +kernel
set_option maxRecDepth 20000 in
theorem ggL_flow_X8_flow : GoodIn wsL_flow wsX8_flow := goodIn_ca (goodIn_ca (goodIn_r _ [7, 8, 9, 10, 6, 11, 12, 13, 14, 15, 16, 17, 18, 19, 20, 21, 22, 23, 24, 25, 26, 27, 28, 29, 30, 31, 32, 33, 34, 35, 36, 37, 38, 39, 40, 41, 42, 43, 44, 45, 46] (by decide +kernel) (by decide +kernel)) (goodIn_sub (fun _ h => List.mem_cons_of_mem _ (List.mem_append_left _ (List.mem_append_right _ h))) (by decide +kernel))) (goodIn_sub (fun _ h => List.mem_cons_of_mem _ (List.mem_append_right _ h)) (by decide +kernel))
set_option maxRecDepth 20000 in
theorem gL_flow_X8_flow : GoodIn wsL_flow (wsV RL 79 RX8 yX8_flow wsX8_flow) := goodIn_app (goodIn_of _ (by decide +kernel)) ggL_flow_X8_flow
theorem dL_flow_0 : decode cL_flow 0 = .ok (.aload 4, 2) := by decide +kernel
theorem dL_flow_2 : decode cL_flow 2 = .ok (.iconst 0, 1) := by decide +kernel
theorem dL_flow_3 : decode cL_flow 3 = .ok (.aload_n 0, 1) := by decide +kernel
theorem dL_flow_4 : decode cL_flow 4 = .ok (.iload_n 1, 1) := by decide +kernel
theorem dL_flow_5 : decode cL_flow 5 = .ok (.iload_n 2, 1) := by decide +kernel
theorem dL_flow_6 : decode cL_flow 6 = .ok (.iload_n 3, 1) := by decide +kernel
theorem dL_flow_7 : decode cL_flow 7 = .ok (.invokevirtual 79, 3) := by decide +kernel
theorem dL_flow_10 : decode cL_flow 10 = .ok (.i2l, 1) := by decide +kernel
theorem dL_flow_11 : decode cL_flow 11 = .ok (.lastore, 1) := by decide +kernel
theorem dL_flow_12 : decode cL_flow 12 = .ok (.goto 11, 3) := by decide +kernel
theorem dL_flow_15 : decode cL_flow 15 = .ok (.astore 5, 2) := by decide +kernel
theorem dL_flow_17 : decode cL_flow 17 = .ok (.iconst 1, 1) := by decide +kernel
theorem dL_flow_18 : decode cL_flow 18 = .ok (.ireturn, 1) := by decide +kernel
theorem dL_flow_19 : decode cL_flow 19 = .ok (.astore 5, 2) := by decide +kernel
theorem dL_flow_21 : decode cL_flow 21 = .ok (.iconst 2, 1) := by decide +kernel
theorem dL_flow_22 : decode cL_flow 22 = .ok (.ireturn, 1) := by decide +kernel
theorem dL_flow_23 : decode cL_flow 23 = .ok (.iconst 0, 1) := by decide +kernel
theorem dL_flow_24 : decode cL_flow 24 = .ok (.ireturn, 1) := by decide +kernel
set_option maxRecDepth 20000 in
theorem ggL_topplings_X8_topplings : GoodIn wsL_topplings wsX8_topplings := goodIn_ca (goodIn_r _ [6, 7, 8, 9, 5, 10, 11, 12, 13, 14, 15, 16, 17, 18, 19, 20, 21, 22, 23, 24, 25, 26, 27, 28, 29, 30, 31, 32, 33, 34, 35, 36, 37] (by decide +kernel) (by decide +kernel)) (goodIn_sub (fun _ h => List.mem_cons_of_mem _ (List.mem_append_right _ h)) (by decide +kernel))
set_option maxRecDepth 20000 in
theorem gL_topplings_X8_topplings : GoodIn wsL_topplings (wsV RL 82 RX8 yX8_topplings wsX8_topplings) := goodIn_app (goodIn_of _ (by decide +kernel)) ggL_topplings_X8_topplings
theorem dL_topplings_0 : decode cL_topplings 0 = .ok (.aload_n 3, 1) := by decide +kernel
theorem dL_topplings_1 : decode cL_topplings 1 = .ok (.iconst 0, 1) := by decide +kernel
theorem dL_topplings_2 : decode cL_topplings 2 = .ok (.aload_n 0, 1) := by decide +kernel
theorem dL_topplings_3 : decode cL_topplings 3 = .ok (.iload_n 1, 1) := by decide +kernel
theorem dL_topplings_4 : decode cL_topplings 4 = .ok (.iload_n 2, 1) := by decide +kernel
theorem dL_topplings_5 : decode cL_topplings 5 = .ok (.invokevirtual 82, 3) := by decide +kernel
theorem dL_topplings_8 : decode cL_topplings 8 = .ok (.i2l, 1) := by decide +kernel
theorem dL_topplings_9 : decode cL_topplings 9 = .ok (.lastore, 1) := by decide +kernel
theorem dL_topplings_10 : decode cL_topplings 10 = .ok (.goto 7, 3) := by decide +kernel
theorem dL_topplings_13 : decode cL_topplings 13 = .ok (.astore 4, 2) := by decide +kernel
theorem dL_topplings_15 : decode cL_topplings 15 = .ok (.iconst 1, 1) := by decide +kernel
theorem dL_topplings_16 : decode cL_topplings 16 = .ok (.ireturn, 1) := by decide +kernel
theorem dL_topplings_17 : decode cL_topplings 17 = .ok (.iconst 0, 1) := by decide +kernel
theorem dL_topplings_18 : decode cL_topplings 18 = .ok (.ireturn, 1) := by decide +kernel
set_option maxRecDepth 20000 in
theorem ggL_highest_X8_highest : GoodIn wsL_highest wsX8_highest := goodIn_ca (goodIn_r _ [6, 7, 8, 9, 5, 10, 11, 12, 13, 14, 15, 16, 17, 18, 19, 20, 21, 22, 23, 24, 25, 26, 27, 28, 29, 30, 31, 32, 33, 34, 35, 36, 37] (by decide +kernel) (by decide +kernel)) (goodIn_sub (fun _ h => List.mem_cons_of_mem _ (List.mem_append_right _ h)) (by decide +kernel))
set_option maxRecDepth 20000 in
theorem gL_highest_X8_highest : GoodIn wsL_highest (wsV RL 85 RX8 yX8_highest wsX8_highest) := goodIn_app (goodIn_of _ (by decide +kernel)) ggL_highest_X8_highest
theorem dL_highest_0 : decode cL_highest 0 = .ok (.aload_n 2, 1) := by decide +kernel
theorem dL_highest_1 : decode cL_highest 1 = .ok (.iconst 0, 1) := by decide +kernel
theorem dL_highest_2 : decode cL_highest 2 = .ok (.aload_n 0, 1) := by decide +kernel
theorem dL_highest_3 : decode cL_highest 3 = .ok (.iload_n 1, 1) := by decide +kernel
theorem dL_highest_4 : decode cL_highest 4 = .ok (.invokevirtual 85, 3) := by decide +kernel
theorem dL_highest_7 : decode cL_highest 7 = .ok (.i2l, 1) := by decide +kernel
theorem dL_highest_8 : decode cL_highest 8 = .ok (.lastore, 1) := by decide +kernel
theorem dL_highest_9 : decode cL_highest 9 = .ok (.goto 6, 3) := by decide +kernel
theorem dL_highest_12 : decode cL_highest 12 = .ok (.astore_n 3, 1) := by decide +kernel
theorem dL_highest_13 : decode cL_highest 13 = .ok (.iconst 1, 1) := by decide +kernel
theorem dL_highest_14 : decode cL_highest 14 = .ok (.ireturn, 1) := by decide +kernel
theorem dL_highest_15 : decode cL_highest 15 = .ok (.iconst 0, 1) := by decide +kernel
theorem dL_highest_16 : decode cL_highest 16 = .ok (.ireturn, 1) := by decide +kernel
set_option maxRecDepth 20000 in
theorem ggL_roughness_X8_roughness : GoodIn wsL_roughness wsX8_roughness := goodIn_ca (goodIn_r _ [6, 7, 8, 9, 10, 11, 12, 13, 5, 14, 15, 16, 17, 18, 19, 20, 21, 22, 23, 24, 25, 26, 27, 28, 29, 30, 31, 32, 33, 34, 35, 36, 37, 38, 39, 40, 41] (by decide +kernel) (by decide +kernel)) (goodIn_sub (fun _ h => List.mem_cons_of_mem _ (List.mem_append_right _ h)) (by decide +kernel))
set_option maxRecDepth 20000 in
theorem gL_roughness_X8_roughness : GoodIn wsL_roughness (wsV RL 88 RX8 yX8_roughness wsX8_roughness) := goodIn_app (goodIn_of _ (by decide +kernel)) ggL_roughness_X8_roughness
theorem dL_roughness_0 : decode cL_roughness 0 = .ok (.aload_n 2, 1) := by decide +kernel
theorem dL_roughness_1 : decode cL_roughness 1 = .ok (.iconst 0, 1) := by decide +kernel
theorem dL_roughness_2 : decode cL_roughness 2 = .ok (.aload_n 0, 1) := by decide +kernel
theorem dL_roughness_3 : decode cL_roughness 3 = .ok (.iload_n 1, 1) := by decide +kernel
theorem dL_roughness_4 : decode cL_roughness 4 = .ok (.invokevirtual 88, 3) := by decide +kernel
theorem dL_roughness_7 : decode cL_roughness 7 = .ok (.i2l, 1) := by decide +kernel
theorem dL_roughness_8 : decode cL_roughness 8 = .ok (.lastore, 1) := by decide +kernel
theorem dL_roughness_9 : decode cL_roughness 9 = .ok (.goto 6, 3) := by decide +kernel
theorem dL_roughness_12 : decode cL_roughness 12 = .ok (.astore_n 3, 1) := by decide +kernel
theorem dL_roughness_13 : decode cL_roughness 13 = .ok (.iconst 1, 1) := by decide +kernel
theorem dL_roughness_14 : decode cL_roughness 14 = .ok (.ireturn, 1) := by decide +kernel
theorem dL_roughness_15 : decode cL_roughness 15 = .ok (.iconst 0, 1) := by decide +kernel
theorem dL_roughness_16 : decode cL_roughness 16 = .ok (.ireturn, 1) := by decide +kernel
set_option maxRecDepth 20000 in
theorem ggL_flooded_X8_flooded : GoodIn wsL_flooded wsX8_flooded := goodIn_ca (goodIn_r _ [6, 7, 8, 9, 5, 10, 11, 12, 13, 14, 15, 16, 17, 18, 19, 20, 21, 22, 23, 24, 25, 26, 27, 28, 29, 30, 31, 32, 33, 34, 35, 36, 37, 38, 39, 40, 41, 42, 43, 44, 45, 46, 47, 48, 49, 50, 51, 52, 53, 54, 55, 56, 57, 58, 59, 60, 61, 62, 63, 64, 65, 66, 67, 68, 69, 70, 71, 72, 73, 74, 75, 76, 77, 78, 79, 80, 81, 82, 83, 84, 85, 86, 87, 88, 89, 90, 91, 92, 93, 94, 95, 96] (by decide +kernel) (by decide +kernel)) (goodIn_sub (fun _ h => List.mem_cons_of_mem _ (List.mem_append_right _ h)) (by decide +kernel))
set_option maxRecDepth 20000 in
theorem gL_flooded_X8_flooded : GoodIn wsL_flooded (wsV RL 91 RX8 yX8_flooded wsX8_flooded) := goodIn_app (goodIn_of _ (by decide +kernel)) ggL_flooded_X8_flooded
theorem dL_flooded_0 : decode cL_flooded 0 = .ok (.aload_n 2, 1) := by decide +kernel
theorem dL_flooded_1 : decode cL_flooded 1 = .ok (.iconst 0, 1) := by decide +kernel
theorem dL_flooded_2 : decode cL_flooded 2 = .ok (.aload_n 0, 1) := by decide +kernel
theorem dL_flooded_3 : decode cL_flooded 3 = .ok (.iload_n 1, 1) := by decide +kernel
theorem dL_flooded_4 : decode cL_flooded 4 = .ok (.invokevirtual 91, 3) := by decide +kernel
theorem dL_flooded_7 : decode cL_flooded 7 = .ok (.i2l, 1) := by decide +kernel
theorem dL_flooded_8 : decode cL_flooded 8 = .ok (.lastore, 1) := by decide +kernel
theorem dL_flooded_9 : decode cL_flooded 9 = .ok (.goto 6, 3) := by decide +kernel
theorem dL_flooded_12 : decode cL_flooded 12 = .ok (.astore_n 3, 1) := by decide +kernel
theorem dL_flooded_13 : decode cL_flooded 13 = .ok (.iconst 1, 1) := by decide +kernel
theorem dL_flooded_14 : decode cL_flooded 14 = .ok (.ireturn, 1) := by decide +kernel
theorem dL_flooded_15 : decode cL_flooded 15 = .ok (.iconst 0, 1) := by decide +kernel
theorem dL_flooded_16 : decode cL_flooded 16 = .ok (.ireturn, 1) := by decide +kernel
set_option maxRecDepth 20000 in
theorem ggL_floodedByRounds_X8_floodedByRounds : GoodIn wsL_floodedByRounds wsX8_floodedByRounds := goodIn_ca (goodIn_r _ [6, 7, 8, 9, 5, 10, 11, 12, 13, 14, 15, 16, 17, 18, 19, 20, 21, 22, 23, 24, 25, 26, 27, 28, 29, 30, 31, 32, 33, 34, 35, 36, 37, 38, 39, 40, 41, 42, 43, 44, 45, 46, 47, 48, 49, 50, 51, 52, 53, 54, 55, 56, 57, 58, 59, 60, 61, 62, 63, 64, 65, 66, 67, 68, 69] (by decide +kernel) (by decide +kernel)) (goodIn_sub (fun _ h => List.mem_cons_of_mem _ (List.mem_append_right _ h)) (by decide +kernel))
set_option maxRecDepth 20000 in
theorem gL_floodedByRounds_X8_floodedByRounds : GoodIn wsL_floodedByRounds (wsV RL 94 RX8 yX8_floodedByRounds wsX8_floodedByRounds) := goodIn_app (goodIn_of _ (by decide +kernel)) ggL_floodedByRounds_X8_floodedByRounds
theorem dL_floodedByRounds_0 : decode cL_floodedByRounds 0 = .ok (.aload_n 2, 1) := by decide +kernel
theorem dL_floodedByRounds_1 : decode cL_floodedByRounds 1 = .ok (.iconst 0, 1) := by decide +kernel
theorem dL_floodedByRounds_2 : decode cL_floodedByRounds 2 = .ok (.aload_n 0, 1) := by decide +kernel
theorem dL_floodedByRounds_3 : decode cL_floodedByRounds 3 = .ok (.iload_n 1, 1) := by decide +kernel
theorem dL_floodedByRounds_4 : decode cL_floodedByRounds 4 = .ok (.invokevirtual 94, 3) := by decide +kernel
theorem dL_floodedByRounds_7 : decode cL_floodedByRounds 7 = .ok (.i2l, 1) := by decide +kernel
theorem dL_floodedByRounds_8 : decode cL_floodedByRounds 8 = .ok (.lastore, 1) := by decide +kernel
theorem dL_floodedByRounds_9 : decode cL_floodedByRounds 9 = .ok (.goto 6, 3) := by decide +kernel
theorem dL_floodedByRounds_12 : decode cL_floodedByRounds 12 = .ok (.astore_n 3, 1) := by decide +kernel
theorem dL_floodedByRounds_13 : decode cL_floodedByRounds 13 = .ok (.iconst 1, 1) := by decide +kernel
theorem dL_floodedByRounds_14 : decode cL_floodedByRounds 14 = .ok (.ireturn, 1) := by decide +kernel
theorem dL_floodedByRounds_15 : decode cL_floodedByRounds 15 = .ok (.iconst 0, 1) := by decide +kernel
theorem dL_floodedByRounds_16 : decode cL_floodedByRounds 16 = .ok (.ireturn, 1) := by decide +kernel
set_option maxRecDepth 20000 in
theorem ggL_isFlooded_X8_isFlooded : GoodIn wsL_isFlooded wsX8_isFlooded := goodIn_ca (goodIn_ca (goodIn_r _ [7, 8, 9, 10, 6, 11, 12, 13, 14, 15, 16, 17, 18, 19, 20, 21, 22, 23, 24, 25, 26, 27, 28, 29, 30, 31, 32, 33, 34, 35, 36, 37, 38, 39, 40, 41, 42, 43, 44, 45, 46, 47, 48, 49, 50, 51, 52, 53, 54, 55, 56, 57, 58, 59, 60, 61, 62, 63, 64, 65, 66, 67, 68, 69, 70, 71, 72, 73, 74, 75, 76, 77, 78, 79, 80, 81, 82, 83, 84, 85, 86, 87, 88, 89, 90, 91, 92, 93, 94, 95, 96, 97, 98, 99, 100, 101, 102, 103, 104, 105, 106] (by decide +kernel) (by decide +kernel)) (goodIn_sub (fun _ h => List.mem_cons_of_mem _ (List.mem_append_left _ (List.mem_append_right _ h))) (by decide +kernel))) (goodIn_sub (fun _ h => List.mem_cons_of_mem _ (List.mem_append_right _ h)) (by decide +kernel))
set_option maxRecDepth 20000 in
theorem gL_isFlooded_X8_isFlooded : GoodIn wsL_isFlooded (wsV RL 97 RX8 yX8_isFlooded wsX8_isFlooded) := goodIn_app (goodIn_of _ (by decide +kernel)) ggL_isFlooded_X8_isFlooded
theorem dL_isFlooded_0 : decode cL_isFlooded 0 = .ok (.aload 4, 2) := by decide +kernel
theorem dL_isFlooded_2 : decode cL_isFlooded 2 = .ok (.iconst 0, 1) := by decide +kernel
theorem dL_isFlooded_3 : decode cL_isFlooded 3 = .ok (.aload_n 0, 1) := by decide +kernel
theorem dL_isFlooded_4 : decode cL_isFlooded 4 = .ok (.iload_n 1, 1) := by decide +kernel
theorem dL_isFlooded_5 : decode cL_isFlooded 5 = .ok (.iload_n 2, 1) := by decide +kernel
theorem dL_isFlooded_6 : decode cL_isFlooded 6 = .ok (.iload_n 3, 1) := by decide +kernel
theorem dL_isFlooded_7 : decode cL_isFlooded 7 = .ok (.invokevirtual 97, 3) := by decide +kernel
theorem dL_isFlooded_10 : decode cL_isFlooded 10 = .ok (.ifCond .eq 7, 3) := by decide +kernel
theorem dL_isFlooded_13 : decode cL_isFlooded 13 = .ok (.lconst 1, 1) := by decide +kernel
theorem dL_isFlooded_14 : decode cL_isFlooded 14 = .ok (.goto 4, 3) := by decide +kernel
theorem dL_isFlooded_17 : decode cL_isFlooded 17 = .ok (.lconst 0, 1) := by decide +kernel
theorem dL_isFlooded_18 : decode cL_isFlooded 18 = .ok (.lastore, 1) := by decide +kernel
theorem dL_isFlooded_19 : decode cL_isFlooded 19 = .ok (.goto 11, 3) := by decide +kernel
theorem dL_isFlooded_22 : decode cL_isFlooded 22 = .ok (.astore 5, 2) := by decide +kernel
theorem dL_isFlooded_24 : decode cL_isFlooded 24 = .ok (.iconst 1, 1) := by decide +kernel
theorem dL_isFlooded_25 : decode cL_isFlooded 25 = .ok (.ireturn, 1) := by decide +kernel
theorem dL_isFlooded_26 : decode cL_isFlooded 26 = .ok (.astore 5, 2) := by decide +kernel
theorem dL_isFlooded_28 : decode cL_isFlooded 28 = .ok (.iconst 2, 1) := by decide +kernel
theorem dL_isFlooded_29 : decode cL_isFlooded 29 = .ok (.ireturn, 1) := by decide +kernel
theorem dL_isFlooded_30 : decode cL_isFlooded 30 = .ok (.iconst 0, 1) := by decide +kernel
theorem dL_isFlooded_31 : decode cL_isFlooded 31 = .ok (.ireturn, 1) := by decide +kernel
