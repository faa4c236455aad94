set_option maxRecDepth 20000 in
theorem ggX8_init_X2_init : GoodIn wsX8_init wsX2_init := goodIn_r _ [34, 35, 2, 3, 36, 9, 10, 37, 38, 39, 40, 41, 42, 43, 44, 45, 46, 47, 48, 6, 49, 50, 51, 52, 53, 122, 113, 114] (by decide +kernel) (by decide +kernel)
set_option maxRecDepth 20000 in
theorem gX8_init_X2_init : GoodIn wsX8_init (wsX2_init) := ggX8_init_X2_init
set_option maxRecDepth 20000 in
theorem ggX8_init_X3_init : GoodIn wsX8_init wsX3_init := goodIn_r _ [40, 41, 2, 3, 42, 43, 122] (by decide +kernel) (by decide +kernel)
set_option maxRecDepth 20000 in
theorem gX8_init_X3_init : GoodIn wsX8_init (wsX3_init) := ggX8_init_X3_init
set_option maxRecDepth 20000 in
theorem ggX8_init_X6_init : GoodIn wsX8_init wsX6_init := goodIn_r _ [57, 58, 2, 3, 59, 9, 10, 60, 61, 62, 63, 64, 65, 66, 67, 68, 39, 40, 41, 42, 43, 69, 70, 71, 72, 73, 74, 75, 122, 123, 124, 125, 126, 127, 149, 150, 151, 152] (by decide +kernel) (by decide +kernel)
set_option maxRecDepth 20000 in
theorem gX8_init_X6_init : GoodIn wsX8_init (wsX6_init) := ggX8_init_X6_init
set_option maxRecDepth 20000 in
theorem ggX8_init_X4_init : GoodIn wsX8_init wsX4_init := goodIn_r _ [78, 79, 2, 3, 80, 9, 10, 81, 82, 83, 84, 85, 86, 87, 39, 40, 41, 42, 43, 122, 128, 129, 130, 131, 132, 133, 134, 135] (by decide +kernel) (by decide +kernel)
set_option maxRecDepth 20000 in
theorem gX8_init_X4_init : GoodIn wsX8_init (wsX4_init) := ggX8_init_X4_init
set_option maxRecDepth 20000 in
theorem ggX8_init_X7_init : GoodIn wsX8_init wsX7_init := goodIn_r _ [90, 91, 2, 3, 92, 93, 94, 136, 137, 138, 139, 140, 141] (by decide +kernel) (by decide +kernel)
set_option maxRecDepth 20000 in
theorem gX8_init_X7_init : GoodIn wsX8_init (wsX7_init) := ggX8_init_X7_init
set_option maxRecDepth 20000 in
theorem ggX8_init_X5_init : GoodIn wsX8_init wsX5_init := goodIn_r _ [96, 97, 2, 3, 98, 9, 10, 99, 100, 101, 39, 40, 41, 42, 43, 122, 142, 143, 144] (by decide +kernel) (by decide +kernel)
set_option maxRecDepth 20000 in
theorem gX8_init_X5_init_n54 : GoodIn wsX8_init (wsX5_init) := ggX8_init_X5_init
set_option maxRecDepth 20000 in
theorem ggX8_init_X1_init : GoodIn wsX8_init wsX1_init := goodIn_r _ [104, 105, 2, 3, 106, 9, 10, 107, 108, 63, 64, 109, 110, 111, 112, 39, 40, 41, 42, 43, 69, 70, 71, 72, 73, 74, 75, 122, 145, 146, 147, 148, 149, 150, 151, 152] (by decide +kernel) (by decide +kernel)
set_option maxRecDepth 20000 in
theorem gX8_init_X1_init : GoodIn wsX8_init (wsX1_init) := ggX8_init_X1_init
theorem dX8_init_0 : decode cX8_init 0 = .ok (.aload_n 0, 1) := by decide +kernel
theorem dX8_init_1 : decode cX8_init 1 = .ok (.invokespecial 3, 3) := by decide +kernel
theorem dX8_init_4 : decode cX8_init 4 = .ok (.aload_n 0, 1) := by decide +kernel
theorem dX8_init_5 : decode cX8_init 5 = .ok (.new 9, 3) := by decide +kernel
theorem dX8_init_8 : decode cX8_init 8 = .ok (.dup, 1) := by decide +kernel
theorem dX8_init_9 : decode cX8_init 9 = .ok (.invokespecial 11, 3) := by decide +kernel
theorem dX8_init_12 : decode cX8_init 12 = .ok (.putfield 12, 3) := by decide +kernel
theorem dX8_init_15 : decode cX8_init 15 = .ok (.aload_n 0, 1) := by decide +kernel
theorem dX8_init_16 : decode cX8_init 16 = .ok (.new 16, 3) := by decide +kernel
theorem dX8_init_19 : decode cX8_init 19 = .ok (.dup, 1) := by decide +kernel
theorem dX8_init_20 : decode cX8_init 20 = .ok (.bipush 42, 2) := by decide +kernel
theorem dX8_init_22 : decode cX8_init 22 = .ok (.invokespecial 18, 3) := by decide +kernel
theorem dX8_init_25 : decode cX8_init 25 = .ok (.putfield 21, 3) := by decide +kernel
theorem dX8_init_28 : decode cX8_init 28 = .ok (.aload_n 0, 1) := by decide +kernel
theorem dX8_init_29 : decode cX8_init 29 = .ok (.new 25, 3) := by decide +kernel
theorem dX8_init_32 : decode cX8_init 32 = .ok (.dup, 1) := by decide +kernel
theorem dX8_init_33 : decode cX8_init 33 = .ok (.aload_n 0, 1) := by decide +kernel
theorem dX8_init_34 : decode cX8_init 34 = .ok (.getfield 12, 3) := by decide +kernel
theorem dX8_init_37 : decode cX8_init 37 = .ok (.aload_n 0, 1) := by decide +kernel
theorem dX8_init_38 : decode cX8_init 38 = .ok (.getfield 21, 3) := by decide +kernel
theorem dX8_init_41 : decode cX8_init 41 = .ok (.invokespecial 27, 3) := by decide +kernel
theorem dX8_init_44 : decode cX8_init 44 = .ok (.putfield 30, 3) := by decide +kernel
theorem dX8_init_47 : decode cX8_init 47 = .ok (.aload_n 0, 1) := by decide +kernel
theorem dX8_init_48 : decode cX8_init 48 = .ok (.new 34, 3) := by decide +kernel
theorem dX8_init_51 : decode cX8_init 51 = .ok (.dup, 1) := by decide +kernel
theorem dX8_init_52 : decode cX8_init 52 = .ok (.aload_n 0, 1) := by decide +kernel
theorem dX8_init_53 : decode cX8_init 53 = .ok (.getfield 12, 3) := by decide +kernel
theorem dX8_init_56 : decode cX8_init 56 = .ok (.aload_n 0, 1) := by decide +kernel
theorem dX8_init_57 : decode cX8_init 57 = .ok (.getfield 30, 3) := by decide +kernel
theorem dX8_init_60 : decode cX8_init 60 = .ok (.invokespecial 36, 3) := by decide +kernel
theorem dX8_init_63 : decode cX8_init 63 = .ok (.putfield 39, 3) := by decide +kernel
theorem dX8_init_66 : decode cX8_init 66 = .ok (.aload_n 0, 1) := by decide +kernel
theorem dX8_init_67 : decode cX8_init 67 = .ok (.new 43, 3) := by decide +kernel
theorem dX8_init_70 : decode cX8_init 70 = .ok (.dup, 1) := by decide +kernel
theorem dX8_init_71 : decode cX8_init 71 = .ok (.aload_n 0, 1) := by decide +kernel
theorem dX8_init_72 : decode cX8_init 72 = .ok (.getfield 12, 3) := by decide +kernel
theorem dX8_init_75 : decode cX8_init 75 = .ok (.aload_n 0, 1) := by decide +kernel
theorem dX8_init_76 : decode cX8_init 76 = .ok (.getfield 21, 3) := by decide +kernel
theorem dX8_init_79 : decode cX8_init 79 = .ok (.aload_n 0, 1) := by decide +kernel
theorem dX8_init_80 : decode cX8_init 80 = .ok (.getfield 39, 3) := by decide +kernel
theorem dX8_init_83 : decode cX8_init 83 = .ok (.invokespecial 45, 3) := by decide +kernel
theorem dX8_init_86 : decode cX8_init 86 = .ok (.putfield 48, 3) := by decide +kernel
theorem dX8_init_89 : decode cX8_init 89 = .ok (.aload_n 0, 1) := by decide +kernel
theorem dX8_init_90 : decode cX8_init 90 = .ok (.new 52, 3) := by decide +kernel
theorem dX8_init_93 : decode cX8_init 93 = .ok (.dup, 1) := by decide +kernel
theorem dX8_init_94 : decode cX8_init 94 = .ok (.invokespecial 54, 3) := by decide +kernel
theorem dX8_init_97 : decode cX8_init 97 = .ok (.putfield 55, 3) := by decide +kernel
theorem dX8_init_100 : decode cX8_init 100 = .ok (.aload_n 0, 1) := by decide +kernel
theorem dX8_init_101 : decode cX8_init 101 = .ok (.new 59, 3) := by decide +kernel
theorem dX8_init_104 : decode cX8_init 104 = .ok (.dup, 1) := by decide +kernel
theorem dX8_init_105 : decode cX8_init 105 = .ok (.aload_n 0, 1) := by decide +kernel
theorem dX8_init_106 : decode cX8_init 106 = .ok (.getfield 12, 3) := by decide +kernel
theorem dX8_init_109 : decode cX8_init 109 = .ok (.aload_n 0, 1) := by decide +kernel
theorem dX8_init_110 : decode cX8_init 110 = .ok (.getfield 39, 3) := by decide +kernel
theorem dX8_init_113 : decode cX8_init 113 = .ok (.getfield 61, 3) := by decide +kernel
theorem dX8_init_116 : decode cX8_init 116 = .ok (.invokespecial 64, 3) := by decide +kernel
theorem dX8_init_119 : decode cX8_init 119 = .ok (.putfield 65, 3) := by decide +kernel
theorem dX8_init_122 : decode cX8_init 122 = .ok (.return_, 1) := by decide +kernel
set_option maxRecDepth 20000 in
theorem ggX8_pour_X8_cellOf : GoodIn wsX8_pour wsX8_cellOf := goodIn_ca (goodIn_r _ [5, 6, 7, 8, 9, 4, 10] (by decide +kernel) (by decide +kernel)) (goodIn_sub (fun _ h => List.mem_cons_of_mem _ (List.mem_append_left _ (List.mem_append_right _ h))) (by decide +kernel))
set_option maxRecDepth 20000 in
theorem gX8_pour_X8_cellOf : GoodIn wsX8_pour (va_wsS RX8 69 yX8_cellOf wsX8_cellOf) := goodIn_app (goodIn_of _ (by decide +kernel)) ggX8_pour_X8_cellOf
set_option maxRecDepth 20000 in
theorem ggX8_pour_X8_needGrains : GoodIn wsX8_pour wsX8_needGrains := goodIn_ca (goodIn_r _ [13, 14, 15] (by decide +kernel) (by decide +kernel)) (goodIn_sub (fun _ h => List.mem_cons_of_mem _ (List.mem_append_right _ h)) (by decide +kernel))
set_option maxRecDepth 20000 in
theorem gX8_pour_X8_needGrains : GoodIn wsX8_pour (va_wsS RX8 73 yX8_needGrains wsX8_needGrains) := goodIn_app (goodIn_of _ (by decide +kernel)) ggX8_pour_X8_needGrains
set_option maxRecDepth 20000 in
theorem ggX8_pour_X4_bring : GoodIn wsX8_pour wsX4_bring := goodIn_r _ [20, 21, 22, 23, 24, 19, 25, 26, 27, 28, 29, 30, 31, 32, 33, 157, 158, 159, 160, 161, 162, 163, 164, 165] (by decide +kernel) (by decide +kernel)
set_option maxRecDepth 20000 in
theorem gX8_pour_X4_bring : GoodIn wsX8_pour (wsV RX8 76 RX4 yX4_bring wsX4_bring) := goodIn_app (goodIn_of _ (by decide +kernel)) ggX8_pour_X4_bring
set_option maxRecDepth 20000 in
theorem ggX8_pour_X4_settle : GoodIn wsX8_pour wsX4_settle := goodIn_r _ [37, 38, 26, 39, 40, 41, 42, 43, 44, 45, 46, 47, 48, 49, 50, 31, 51, 33, 52, 53, 54, 55, 56, 57, 58, 59, 60, 61, 62, 63, 64, 65, 66, 67, 68, 69, 70, 71, 72, 73, 74, 75, 76, 77, 78, 79, 80, 81, 82, 83, 84, 85, 86, 87, 88, 89, 90, 4, 91, 92, 93, 94, 95, 96, 97, 98, 99, 100, 101, 102, 103, 104, 105, 106, 107, 108, 109, 110, 111, 112, 113, 114, 115, 116, 117, 118, 119, 120, 121, 122, 123, 29, 30, 32, 124, 125, 126, 127, 128, 129, 130, 131, 132, 133, 134, 135, 136, 137, 138, 139, 140, 19, 141, 142, 143, 144, 145, 28, 146, 147, 148, 149, 157, 158, 159, 160, 161, 162, 163, 164, 166, 167, 168, 169, 170, 165, 171, 172, 173, 174, 175, 176] (by decide +kernel) (by decide +kernel)
set_option maxRecDepth 20000 in
theorem gX8_pour_X4_settle : GoodIn wsX8_pour (wsV RX8 80 RX4 yX4_settle wsX4_settle) := goodIn_app (goodIn_of _ (by decide +kernel)) ggX8_pour_X4_settle
theorem dX8_pour_0 : decode cX8_pour 0 = .ok (.iload_n 1, 1) := by decide +kernel
theorem dX8_pour_1 : decode cX8_pour 1 = .ok (.iload_n 2, 1) := by decide +kernel
theorem dX8_pour_2 : decode cX8_pour 2 = .ok (.invokestatic 69, 3) := by decide +kernel
theorem dX8_pour_5 : decode cX8_pour 5 = .ok (.istore 4, 2) := by decide +kernel
theorem dX8_pour_7 : decode cX8_pour 7 = .ok (.iload_n 3, 1) := by decide +kernel
theorem dX8_pour_8 : decode cX8_pour 8 = .ok (.invokestatic 73, 3) := by decide +kernel
theorem dX8_pour_11 : decode cX8_pour 11 = .ok (.aload_n 0, 1) := by decide +kernel
theorem dX8_pour_12 : decode cX8_pour 12 = .ok (.getfield 39, 3) := by decide +kernel
theorem dX8_pour_15 : decode cX8_pour 15 = .ok (.iload 4, 2) := by decide +kernel
theorem dX8_pour_17 : decode cX8_pour 17 = .ok (.iload_n 3, 1) := by decide +kernel
theorem dX8_pour_18 : decode cX8_pour 18 = .ok (.invokevirtual 76, 3) := by decide +kernel
theorem dX8_pour_21 : decode cX8_pour 21 = .ok (.aload_n 0, 1) := by decide +kernel
theorem dX8_pour_22 : decode cX8_pour 22 = .ok (.getfield 39, 3) := by decide +kernel
theorem dX8_pour_25 : decode cX8_pour 25 = .ok (.invokevirtual 80, 3) := by decide +kernel
theorem dX8_pour_28 : decode cX8_pour 28 = .ok (.ireturn, 1) := by decide +kernel
set_option maxRecDepth 20000 in
theorem ggX8_dig_X8_cellOf : GoodIn wsX8_dig wsX8_cellOf := goodIn_ca (goodIn_r _ [7, 8, 9, 10, 11, 6, 12] (by decide +kernel) (by decide +kernel)) (goodIn_sub (fun _ h => List.mem_cons_of_mem _ (List.mem_append_left _ (List.mem_append_right _ h))) (by decide +kernel))
set_option maxRecDepth 20000 in
theorem gX8_dig_X8_cellOf : GoodIn wsX8_dig (va_wsS RX8 69 yX8_cellOf wsX8_cellOf) := goodIn_app (goodIn_of _ (by decide +kernel)) ggX8_dig_X8_cellOf
set_option maxRecDepth 20000 in
theorem ggX8_dig_X8_needGrains : GoodIn wsX8_dig wsX8_needGrains := goodIn_ca (goodIn_r _ [15, 16, 17] (by decide +kernel) (by decide +kernel)) (goodIn_sub (fun _ h => List.mem_cons_of_mem _ (List.mem_append_right _ h)) (by decide +kernel))
set_option maxRecDepth 20000 in
theorem gX8_dig_X8_needGrains : GoodIn wsX8_dig (va_wsS RX8 73 yX8_needGrains wsX8_needGrains) := goodIn_app (goodIn_of _ (by decide +kernel)) ggX8_dig_X8_needGrains
set_option maxRecDepth 20000 in
theorem ggX8_dig_X3_at : GoodIn wsX8_dig wsX3_at := goodIn_r _ [22, 23, 55] (by decide +kernel) (by decide +kernel)
set_option maxRecDepth 20000 in
theorem gX8_dig_X3_at : GoodIn wsX8_dig (wsV RX8 84 RX3 yX3_at wsX3_at) := goodIn_app (goodIn_of _ (by decide +kernel)) ggX8_dig_X3_at
set_option maxRecDepth 20000 in
theorem ggX8_dig_X4_bring : GoodIn wsX8_dig wsX4_bring := goodIn_r _ [28, 29, 30, 31, 32, 27, 33, 34, 35, 36, 37, 38, 21, 39, 23, 47, 48, 49, 50, 51, 52, 53, 54, 55] (by decide +kernel) (by decide +kernel)
set_option maxRecDepth 20000 in
theorem gX8_dig_X4_bring : GoodIn wsX8_dig (wsV RX8 76 RX4 yX4_bring wsX4_bring) := goodIn_app (goodIn_of _ (by decide +kernel)) ggX8_dig_X4_bring
theorem dX8_dig_0 : decode cX8_dig 0 = .ok (.iload_n 1, 1) := by decide +kernel
theorem dX8_dig_1 : decode cX8_dig 1 = .ok (.iload_n 2, 1) := by decide +kernel
theorem dX8_dig_2 : decode cX8_dig 2 = .ok (.invokestatic 69, 3) := by decide +kernel
theorem dX8_dig_5 : decode cX8_dig 5 = .ok (.istore 4, 2) := by decide +kernel
theorem dX8_dig_7 : decode cX8_dig 7 = .ok (.iload_n 3, 1) := by decide +kernel
theorem dX8_dig_8 : decode cX8_dig 8 = .ok (.invokestatic 73, 3) := by decide +kernel
theorem dX8_dig_11 : decode cX8_dig 11 = .ok (.aload_n 0, 1) := by decide +kernel
theorem dX8_dig_12 : decode cX8_dig 12 = .ok (.getfield 39, 3) := by decide +kernel
theorem dX8_dig_15 : decode cX8_dig 15 = .ok (.getfield 61, 3) := by decide +kernel
theorem dX8_dig_18 : decode cX8_dig 18 = .ok (.iload 4, 2) := by decide +kernel
theorem dX8_dig_20 : decode cX8_dig 20 = .ok (.invokevirtual 84, 3) := by decide +kernel
theorem dX8_dig_23 : decode cX8_dig 23 = .ok (.iload_n 3, 1) := by decide +kernel
theorem dX8_dig_24 : decode cX8_dig 24 = .ok (.if_icmp .ge 13, 3) := by decide +kernel
theorem dX8_dig_27 : decode cX8_dig 27 = .ok (.new 88, 3) := by decide +kernel
theorem dX8_dig_30 : decode cX8_dig 30 = .ok (.dup, 1) := by decide +kernel
theorem dX8_dig_31 : decode cX8_dig 31 = .ok (.ldc 90, 2) := by decide +kernel
theorem dX8_dig_33 : decode cX8_dig 33 = .ok (.invokespecial 92, 3) := by decide +kernel
theorem dX8_dig_36 : decode cX8_dig 36 = .ok (.athrow, 1) := by decide +kernel
theorem dX8_dig_37 : decode cX8_dig 37 = .ok (.aload_n 0, 1) := by decide +kernel
theorem dX8_dig_38 : decode cX8_dig 38 = .ok (.getfield 39, 3) := by decide +kernel
theorem dX8_dig_41 : decode cX8_dig 41 = .ok (.iload 4, 2) := by decide +kernel
theorem dX8_dig_43 : decode cX8_dig 43 = .ok (.iload_n 3, 1) := by decide +kernel
theorem dX8_dig_44 : decode cX8_dig 44 = .ok (.ineg, 1) := by decide +kernel
theorem dX8_dig_45 : decode cX8_dig 45 = .ok (.invokevirtual 76, 3) := by decide +kernel
theorem dX8_dig_48 : decode cX8_dig 48 = .ok (.aload_n 0, 1) := by decide +kernel
theorem dX8_dig_49 : decode cX8_dig 49 = .ok (.getfield 39, 3) := by decide +kernel
theorem dX8_dig_52 : decode cX8_dig 52 = .ok (.getfield 61, 3) := by decide +kernel
theorem dX8_dig_55 : decode cX8_dig 55 = .ok (.iload 4, 2) := by decide +kernel
theorem dX8_dig_57 : decode cX8_dig 57 = .ok (.invokevirtual 84, 3) := by decide +kernel
theorem dX8_dig_60 : decode cX8_dig 60 = .ok (.ireturn, 1) := by decide +kernel
set_option maxRecDepth 20000 in
theorem ggX8_topplesIf_X8_tryPouring : GoodIn wsX8_topplesIf wsX8_tryPouring := goodIn_ca (goodIn_ca (goodIn_r _ [6, 1, 7, 8, 9, 5, 10, 11, 12, 13, 14, 15, 16, 17, 18, 19, 20, 21, 22, 23, 24, 25, 26, 27, 28, 29, 30, 31, 32, 33, 34, 35, 36, 37, 38, 39, 40, 41, 42, 43, 44, 45, 119, 120, 121, 122, 123, 124, 125, 131, 132, 133, 134, 135, 136, 137, 138, 126, 127, 128, 129, 130, 139] (by decide +kernel) (by decide +kernel)) (goodIn_sub (fun _ h => List.mem_cons_of_mem _ (List.mem_append_left _ (List.mem_append_right _ h))) (by decide +kernel))) (goodIn_sub (fun _ h => List.mem_cons_of_mem _ (List.mem_append_right _ h)) (by decide +kernel))
set_option maxRecDepth 20000 in
theorem gX8_topplesIf_X8_tryPouring : GoodIn wsX8_topplesIf (wsV RX8 95 RX8 yX8_tryPouring wsX8_tryPouring) := goodIn_app (goodIn_of _ (by decide +kernel)) ggX8_topplesIf_X8_tryPouring
set_option maxRecDepth 20000 in
theorem ggX8_topplesIf_X6_settleByQueue : GoodIn wsX8_topplesIf wsX6_settleByQueue := goodIn_r _ [49, 50, 51, 52, 53, 54, 55, 56, 57, 58, 59, 60, 39, 40, 31, 41, 33, 61, 62, 63, 24, 64, 26, 65, 35, 36, 37, 66, 67, 68, 69, 70, 71, 72, 73, 74, 75, 76, 5, 77, 78, 79, 80, 81, 82, 83, 84, 85, 86, 87, 88, 89, 90, 91, 92, 93, 94, 95, 27, 96, 97, 98, 99, 100, 101, 102, 103, 104, 105, 106, 107, 108, 109, 43, 44, 45, 110, 111, 112, 113, 114, 126, 127, 128, 129, 130, 140, 141, 142, 143, 139, 144, 145] (by decide +kernel) (by decide +kernel)
set_option maxRecDepth 20000 in
theorem gX8_topplesIf_X6_settleByQueue : GoodIn wsX8_topplesIf (wsV RX8 99 RX6 yX6_settleByQueue wsX6_settleByQueue) := goodIn_app (goodIn_of _ (by decide +kernel)) ggX8_topplesIf_X6_settleByQueue
set_option maxRecDepth 20000 in
theorem ggX8_topplesIf_X3_total : GoodIn wsX8_topplesIf wsX3_total := goodIn_r _ [118, 33, 139] (by decide +kernel) (by decide +kernel)
set_option maxRecDepth 20000 in
theorem gX8_topplesIf_X3_total : GoodIn wsX8_topplesIf (wsV RX8 105 RX3 yX3_total wsX3_total) := goodIn_app (goodIn_of _ (by decide +kernel)) ggX8_topplesIf_X3_total
theorem dX8_topplesIf_0 : decode cX8_topplesIf 0 = .ok (.aload_n 0, 1) := by decide +kernel
theorem dX8_topplesIf_1 : decode cX8_topplesIf 1 = .ok (.iload_n 1, 1) := by decide +kernel
theorem dX8_topplesIf_2 : decode cX8_topplesIf 2 = .ok (.iload_n 2, 1) := by decide +kernel
theorem dX8_topplesIf_3 : decode cX8_topplesIf 3 = .ok (.iload_n 3, 1) := by decide +kernel
theorem dX8_topplesIf_4 : decode cX8_topplesIf 4 = .ok (.invokevirtual 95, 3) := by decide +kernel
theorem dX8_topplesIf_7 : decode cX8_topplesIf 7 = .ok (.aload_n 0, 1) := by decide +kernel
theorem dX8_topplesIf_8 : decode cX8_topplesIf 8 = .ok (.getfield 30, 3) := by decide +kernel
theorem dX8_topplesIf_11 : decode cX8_topplesIf 11 = .ok (.invokevirtual 99, 3) := by decide +kernel
theorem dX8_topplesIf_14 : decode cX8_topplesIf 14 = .ok (.aload_n 0, 1) := by decide +kernel
theorem dX8_topplesIf_15 : decode cX8_topplesIf 15 = .ok (.getfield 30, 3) := by decide +kernel
theorem dX8_topplesIf_18 : decode cX8_topplesIf 18 = .ok (.getfield 102, 3) := by decide +kernel
theorem dX8_topplesIf_21 : decode cX8_topplesIf 21 = .ok (.invokevirtual 105, 3) := by decide +kernel
theorem dX8_topplesIf_24 : decode cX8_topplesIf 24 = .ok (.ireturn, 1) := by decide +kernel
set_option maxRecDepth 20000 in
theorem ggX8_topplesIfBySweeps_X8_tryPouring : GoodIn wsX8_topplesIfBySweeps wsX8_tryPouring := goodIn_ca (goodIn_ca (goodIn_r _ [6, 1, 7, 8, 9, 5, 10, 11, 12, 13, 14, 15, 16, 17, 18, 19, 20, 21, 22, 23, 24, 25, 26, 27, 28, 29, 30, 31, 32, 33, 34, 35, 36, 37, 38, 39, 40, 41, 42, 43, 44, 45, 89, 90, 91, 92, 93, 94, 95, 101, 102, 103, 104, 105, 106, 107, 108, 96, 97, 98, 99, 100, 109] (by decide +kernel) (by decide +kernel)) (goodIn_sub (fun _ h => List.mem_cons_of_mem _ (List.mem_append_left _ (List.mem_append_right _ h))) (by decide +kernel))) (goodIn_sub (fun _ h => List.mem_cons_of_mem _ (List.mem_append_right _ h)) (by decide +kernel))
set_option maxRecDepth 20000 in
theorem gX8_topplesIfBySweeps_X8_tryPouring : GoodIn wsX8_topplesIfBySweeps (wsV RX8 95 RX8 yX8_tryPouring wsX8_tryPouring) := goodIn_app (goodIn_of _ (by decide +kernel)) ggX8_topplesIfBySweeps_X8_tryPouring
set_option maxRecDepth 20000 in
theorem ggX8_topplesIfBySweeps_X6_settleBySweeps : GoodIn wsX8_topplesIfBySweeps wsX6_settleBySweeps := goodIn_r _ [49, 50, 51, 52, 53, 24, 54, 55, 56, 57, 58, 26, 59, 35, 36, 31, 37, 33, 60, 61, 62, 63, 64, 65, 66, 67, 68, 69, 27, 70, 71, 72, 73, 74, 75, 76, 77, 78, 79, 80, 5, 81, 82, 83, 43, 44, 45, 84, 96, 97, 98, 99, 100, 109, 110, 111] (by decide +kernel) (by decide +kernel)
set_option maxRecDepth 20000 in
theorem gX8_topplesIfBySweeps_X6_settleBySweeps : GoodIn wsX8_topplesIfBySweeps (wsV RX8 108 RX6 yX6_settleBySweeps wsX6_settleBySweeps) := goodIn_app (goodIn_of _ (by decide +kernel)) ggX8_topplesIfBySweeps_X6_settleBySweeps
set_option maxRecDepth 20000 in
theorem ggX8_topplesIfBySweeps_X3_total : GoodIn wsX8_topplesIfBySweeps wsX3_total := goodIn_r _ [88, 33, 109] (by decide +kernel) (by decide +kernel)
set_option maxRecDepth 20000 in
theorem gX8_topplesIfBySweeps_X3_total : GoodIn wsX8_topplesIfBySweeps (wsV RX8 105 RX3 yX3_total wsX3_total) := goodIn_app (goodIn_of _ (by decide +kernel)) ggX8_topplesIfBySweeps_X3_total
theorem dX8_topplesIfBySweeps_0 : decode cX8_topplesIfBySweeps 0 = .ok (.aload_n 0, 1) := by decide +kernel
theorem dX8_topplesIfBySweeps_1 : decode cX8_topplesIfBySweeps 1 = .ok (.iload_n 1, 1) := by decide +kernel
theorem dX8_topplesIfBySweeps_2 : decode cX8_topplesIfBySweeps 2 = .ok (.iload_n 2, 1) := by decide +kernel
theorem dX8_topplesIfBySweeps_3 : decode cX8_topplesIfBySweeps 3 = .ok (.iload_n 3, 1) := by decide +kernel
theorem dX8_topplesIfBySweeps_4 : decode cX8_topplesIfBySweeps 4 = .ok (.invokevirtual 95, 3) := by decide +kernel
theorem dX8_topplesIfBySweeps_7 : decode cX8_topplesIfBySweeps 7 = .ok (.aload_n 0, 1) := by decide +kernel
theorem dX8_topplesIfBySweeps_8 : decode cX8_topplesIfBySweeps 8 = .ok (.getfield 30, 3) := by decide +kernel
theorem dX8_topplesIfBySweeps_11 : decode cX8_topplesIfBySweeps 11 = .ok (.invokevirtual 108, 3) := by decide +kernel
theorem dX8_topplesIfBySweeps_14 : decode cX8_topplesIfBySweeps 14 = .ok (.aload_n 0, 1) := by decide +kernel
theorem dX8_topplesIfBySweeps_15 : decode cX8_topplesIfBySweeps 15 = .ok (.getfield 30, 3) := by decide +kernel
theorem dX8_topplesIfBySweeps_18 : decode cX8_topplesIfBySweeps 18 = .ok (.getfield 102, 3) := by decide +kernel
theorem dX8_topplesIfBySweeps_21 : decode cX8_topplesIfBySweeps 21 = .ok (.invokevirtual 105, 3) := by decide +kernel
theorem dX8_topplesIfBySweeps_24 : decode cX8_topplesIfBySweeps 24 = .ok (.ireturn, 1) := by decide +kernel
set_option maxRecDepth 20000 in
theorem ggX8_lostIf_X8_tryPouring : GoodIn wsX8_lostIf wsX8_tryPouring := goodIn_ca (goodIn_ca (goodIn_r _ [6, 1, 7, 8, 9, 5, 10, 11, 12, 13, 14, 15, 16, 17, 18, 19, 20, 21, 22, 23, 24, 25, 26, 27, 28, 29, 30, 31, 32, 33, 34, 35, 36, 37, 38, 39, 40, 41, 42, 43, 44, 45, 119, 120, 121, 122, 123, 124, 125, 126, 127, 128, 129, 130, 131, 132, 133, 134, 135, 136, 137, 138, 139] (by decide +kernel) (by decide +kernel)) (goodIn_sub (fun _ h => List.mem_cons_of_mem _ (List.mem_append_left _ (List.mem_append_right _ h))) (by decide +kernel))) (goodIn_sub (fun _ h => List.mem_cons_of_mem _ (List.mem_append_right _ h)) (by decide +kernel))
set_option maxRecDepth 20000 in
theorem gX8_lostIf_X8_tryPouring : GoodIn wsX8_lostIf (wsV RX8 95 RX8 yX8_tryPouring wsX8_tryPouring) := goodIn_app (goodIn_of _ (by decide +kernel)) ggX8_lostIf_X8_tryPouring
set_option maxRecDepth 20000 in
theorem ggX8_lostIf_X6_settleByQueue : GoodIn wsX8_lostIf wsX6_settleByQueue := goodIn_r _ [49, 50, 51, 52, 53, 54, 55, 56, 57, 58, 59, 60, 39, 40, 31, 41, 33, 61, 62, 63, 24, 64, 26, 65, 35, 36, 37, 66, 67, 68, 69, 70, 71, 72, 73, 74, 75, 76, 5, 77, 78, 79, 80, 81, 82, 83, 84, 85, 86, 87, 88, 89, 90, 91, 92, 93, 94, 95, 27, 96, 97, 98, 99, 100, 101, 102, 103, 104, 105, 106, 107, 108, 109, 43, 44, 45, 110, 111, 112, 113, 114, 134, 135, 136, 137, 138, 140, 141, 142, 143, 139, 144, 145] (by decide +kernel) (by decide +kernel)
set_option maxRecDepth 20000 in
theorem gX8_lostIf_X6_settleByQueue : GoodIn wsX8_lostIf (wsV RX8 99 RX6 yX6_settleByQueue wsX6_settleByQueue) := goodIn_app (goodIn_of _ (by decide +kernel)) ggX8_lostIf_X6_settleByQueue
set_option maxRecDepth 20000 in
theorem ggX8_lostIf_X6_lostGrains : GoodIn wsX8_lostIf wsX6_lostGrains := goodIn_r _ [118, 95, 27, 110, 102, 103, 99, 104, 105, 106, 5, 107, 108, 35, 36, 31, 37, 33, 65, 134, 135, 136, 137, 138, 144, 145, 139] (by decide +kernel) (by decide +kernel)
set_option maxRecDepth 20000 in
theorem gX8_lostIf_X6_lostGrains : GoodIn wsX8_lostIf (wsV RX8 111 RX6 yX6_lostGrains wsX6_lostGrains) := goodIn_app (goodIn_of _ (by decide +kernel)) ggX8_lostIf_X6_lostGrains
theorem dX8_lostIf_0 : decode cX8_lostIf 0 = .ok (.aload_n 0, 1) := by decide +kernel
theorem dX8_lostIf_1 : decode cX8_lostIf 1 = .ok (.iload_n 1, 1) := by decide +kernel
theorem dX8_lostIf_2 : decode cX8_lostIf 2 = .ok (.iload_n 2, 1) := by decide +kernel
theorem dX8_lostIf_3 : decode cX8_lostIf 3 = .ok (.iload_n 3, 1) := by decide +kernel
theorem dX8_lostIf_4 : decode cX8_lostIf 4 = .ok (.invokevirtual 95, 3) := by decide +kernel
theorem dX8_lostIf_7 : decode cX8_lostIf 7 = .ok (.aload_n 0, 1) := by decide +kernel
theorem dX8_lostIf_8 : decode cX8_lostIf 8 = .ok (.getfield 30, 3) := by decide +kernel
theorem dX8_lostIf_11 : decode cX8_lostIf 11 = .ok (.invokevirtual 99, 3) := by decide +kernel
theorem dX8_lostIf_14 : decode cX8_lostIf 14 = .ok (.aload_n 0, 1) := by decide +kernel
theorem dX8_lostIf_15 : decode cX8_lostIf 15 = .ok (.getfield 30, 3) := by decide +kernel
theorem dX8_lostIf_18 : decode cX8_lostIf 18 = .ok (.invokevirtual 111, 3) := by decide +kernel
theorem dX8_lostIf_21 : decode cX8_lostIf 21 = .ok (.ireturn, 1) := by decide +kernel
set_option maxRecDepth 20000 in
theorem ggX8_lostIfBySweeps_X8_tryPouring : GoodIn wsX8_lostIfBySweeps wsX8_tryPouring := goodIn_ca (goodIn_ca (goodIn_r _ [6, 1, 7, 8, 9, 5, 10, 11, 12, 13, 14, 15, 16, 17, 18, 19, 20, 21, 22, 23, 24, 25, 26, 27, 28, 29, 30, 31, 32, 33, 34, 35, 36, 37, 38, 39, 40, 41, 42, 43, 44, 45, 89, 90, 91, 92, 93, 94, 95, 96, 97, 98, 99, 100, 101, 102, 103, 104, 105, 106, 107, 108, 109] (by decide +kernel) (by decide +kernel)) (goodIn_sub (fun _ h => List.mem_cons_of_mem _ (List.mem_append_left _ (List.mem_append_right _ h))) (by decide +kernel))) (goodIn_sub (fun _ h => List.mem_cons_of_mem _ (List.mem_append_right _ h)) (by decide +kernel))
set_option maxRecDepth 20000 in
theorem gX8_lostIfBySweeps_X8_tryPouring : GoodIn wsX8_lostIfBySweeps (wsV RX8 95 RX8 yX8_tryPouring wsX8_tryPouring) := goodIn_app (goodIn_of _ (by decide +kernel)) ggX8_lostIfBySweeps_X8_tryPouring
set_option maxRecDepth 20000 in
theorem ggX8_lostIfBySweeps_X6_settleBySweeps : GoodIn wsX8_lostIfBySweeps wsX6_settleBySweeps := goodIn_r _ [49, 50, 51, 52, 53, 24, 54, 55, 56, 57, 58, 26, 59, 35, 36, 31, 37, 33, 60, 61, 62, 63, 64, 65, 66, 67, 68, 69, 27, 70, 71, 72, 73, 74, 75, 76, 77, 78, 79, 80, 5, 81, 82, 83, 43, 44, 45, 84, 104, 105, 106, 107, 108, 109, 110, 111] (by decide +kernel) (by decide +kernel)
set_option maxRecDepth 20000 in
theorem gX8_lostIfBySweeps_X6_settleBySweeps : GoodIn wsX8_lostIfBySweeps (wsV RX8 108 RX6 yX6_settleBySweeps wsX6_settleBySweeps) := goodIn_app (goodIn_of _ (by decide +kernel)) ggX8_lostIfBySweeps_X6_settleBySweeps
set_option maxRecDepth 20000 in
theorem ggX8_lostIfBySweeps_X6_lostGrains : GoodIn wsX8_lostIfBySweeps wsX6_lostGrains := goodIn_r _ [88, 69, 27, 84, 76, 77, 73, 78, 79, 80, 5, 81, 82, 35, 36, 31, 37, 33, 59, 104, 105, 106, 107, 108, 110, 111, 109] (by decide +kernel) (by decide +kernel)
set_option maxRecDepth 20000 in
theorem gX8_lostIfBySweeps_X6_lostGrains : GoodIn wsX8_lostIfBySweeps (wsV RX8 111 RX6 yX6_lostGrains wsX6_lostGrains) := goodIn_app (goodIn_of _ (by decide +kernel)) ggX8_lostIfBySweeps_X6_lostGrains
theorem dX8_lostIfBySweeps_0 : decode cX8_lostIfBySweeps 0 = .ok (.aload_n 0, 1) := by decide +kernel
theorem dX8_lostIfBySweeps_1 : decode cX8_lostIfBySweeps 1 = .ok (.iload_n 1, 1) := by decide +kernel
theorem dX8_lostIfBySweeps_2 : decode cX8_lostIfBySweeps 2 = .ok (.iload_n 2, 1) := by decide +kernel
theorem dX8_lostIfBySweeps_3 : decode cX8_lostIfBySweeps 3 = .ok (.iload_n 3, 1) := by decide +kernel
theorem dX8_lostIfBySweeps_4 : decode cX8_lostIfBySweeps 4 = .ok (.invokevirtual 95, 3) := by decide +kernel
theorem dX8_lostIfBySweeps_7 : decode cX8_lostIfBySweeps 7 = .ok (.aload_n 0, 1) := by decide +kernel
theorem dX8_lostIfBySweeps_8 : decode cX8_lostIfBySweeps 8 = .ok (.getfield 30, 3) := by decide +kernel
theorem dX8_lostIfBySweeps_11 : decode cX8_lostIfBySweeps 11 = .ok (.invokevirtual 108, 3) := by decide +kernel
theorem dX8_lostIfBySweeps_14 : decode cX8_lostIfBySweeps 14 = .ok (.aload_n 0, 1) := by decide +kernel
theorem dX8_lostIfBySweeps_15 : decode cX8_lostIfBySweeps 15 = .ok (.getfield 30, 3) := by decide +kernel
theorem dX8_lostIfBySweeps_18 : decode cX8_lostIfBySweeps 18 = .ok (.invokevirtual 111, 3) := by decide +kernel
theorem dX8_lostIfBySweeps_21 : decode cX8_lostIfBySweeps 21 = .ok (.ireturn, 1) := by decide +kernel
set_option maxRecDepth 20000 in
theorem ggX8_plant_X8_cellOf : GoodIn wsX8_plant wsX8_cellOf := goodIn_ca (goodIn_r _ [7, 8, 9, 10, 11, 6, 12] (by decide +kernel) (by decide +kernel)) (goodIn_sub (fun _ h => List.mem_cons_of_mem _ (List.mem_append_right _ h)) (by decide +kernel))
set_option maxRecDepth 20000 in
theorem gX8_plant_X8_cellOf : GoodIn wsX8_plant (va_wsS RX8 69 yX8_cellOf wsX8_cellOf) := goodIn_app (goodIn_of _ (by decide +kernel)) ggX8_plant_X8_cellOf
set_option maxRecDepth 20000 in
theorem ggX8_plant_X3_at : GoodIn wsX8_plant wsX3_at := goodIn_r _ [17, 18, 34] (by decide +kernel) (by decide +kernel)
set_option maxRecDepth 20000 in
theorem gX8_plant_X3_at : GoodIn wsX8_plant (wsV RX8 84 RX3 yX3_at wsX3_at) := goodIn_app (goodIn_of _ (by decide +kernel)) ggX8_plant_X3_at
set_option maxRecDepth 20000 in
theorem ggX8_plant_X3_put : GoodIn wsX8_plant wsX3_put := goodIn_r _ [22, 18, 34] (by decide +kernel) (by decide +kernel)
set_option maxRecDepth 20000 in
theorem gX8_plant_X3_put : GoodIn wsX8_plant (wsV RX8 119 RX3 yX3_put wsX3_put) := goodIn_app (goodIn_of _ (by decide +kernel)) ggX8_plant_X3_put
set_option maxRecDepth 20000 in
theorem ggX8_plant_X3_total : GoodIn wsX8_plant wsX3_total := goodIn_r _ [26, 18, 34] (by decide +kernel) (by decide +kernel)
set_option maxRecDepth 20000 in
theorem gX8_plant_X3_total : GoodIn wsX8_plant (wsV RX8 105 RX3 yX3_total wsX3_total) := goodIn_app (goodIn_of _ (by decide +kernel)) ggX8_plant_X3_total
theorem dX8_plant_0 : decode cX8_plant 0 = .ok (.iload_n 1, 1) := by decide +kernel
theorem dX8_plant_1 : decode cX8_plant 1 = .ok (.iload_n 2, 1) := by decide +kernel
theorem dX8_plant_2 : decode cX8_plant 2 = .ok (.invokestatic 69, 3) := by decide +kernel
theorem dX8_plant_5 : decode cX8_plant 5 = .ok (.istore_n 3, 1) := by decide +kernel
theorem dX8_plant_6 : decode cX8_plant 6 = .ok (.aload_n 0, 1) := by decide +kernel
theorem dX8_plant_7 : decode cX8_plant 7 = .ok (.getfield 21, 3) := by decide +kernel
theorem dX8_plant_10 : decode cX8_plant 10 = .ok (.iload_n 3, 1) := by decide +kernel
theorem dX8_plant_11 : decode cX8_plant 11 = .ok (.invokevirtual 84, 3) := by decide +kernel
theorem dX8_plant_14 : decode cX8_plant 14 = .ok (.ifCond .eq 13, 3) := by decide +kernel
theorem dX8_plant_17 : decode cX8_plant 17 = .ok (.new 114, 3) := by decide +kernel
theorem dX8_plant_20 : decode cX8_plant 20 = .ok (.dup, 1) := by decide +kernel
theorem dX8_plant_21 : decode cX8_plant 21 = .ok (.ldc 116, 2) := by decide +kernel
theorem dX8_plant_23 : decode cX8_plant 23 = .ok (.invokespecial 118, 3) := by decide +kernel
theorem dX8_plant_26 : decode cX8_plant 26 = .ok (.athrow, 1) := by decide +kernel
theorem dX8_plant_27 : decode cX8_plant 27 = .ok (.aload_n 0, 1) := by decide +kernel
theorem dX8_plant_28 : decode cX8_plant 28 = .ok (.getfield 21, 3) := by decide +kernel
theorem dX8_plant_31 : decode cX8_plant 31 = .ok (.iload_n 3, 1) := by decide +kernel
theorem dX8_plant_32 : decode cX8_plant 32 = .ok (.iconst 1, 1) := by decide +kernel
theorem dX8_plant_33 : decode cX8_plant 33 = .ok (.invokevirtual 119, 3) := by decide +kernel
theorem dX8_plant_36 : decode cX8_plant 36 = .ok (.aload_n 0, 1) := by decide +kernel
theorem dX8_plant_37 : decode cX8_plant 37 = .ok (.getfield 21, 3) := by decide +kernel
theorem dX8_plant_40 : decode cX8_plant 40 = .ok (.invokevirtual 105, 3) := by decide +kernel
theorem dX8_plant_43 : decode cX8_plant 43 = .ok (.ireturn, 1) := by decide +kernel
set_option maxRecDepth 20000 in
theorem ggX8_uproot_X8_cellOf : GoodIn wsX8_uproot wsX8_cellOf := goodIn_ca (goodIn_r _ [8, 9, 10, 11, 12, 7, 13] (by decide +kernel) (by decide +kernel)) (goodIn_sub (fun _ h => List.mem_cons_of_mem _ (List.mem_append_right _ h)) (by decide +kernel))
set_option maxRecDepth 20000 in
theorem gX8_uproot_X8_cellOf : GoodIn wsX8_uproot (va_wsS RX8 69 yX8_cellOf wsX8_cellOf) := goodIn_app (goodIn_of _ (by decide +kernel)) ggX8_uproot_X8_cellOf
set_option maxRecDepth 20000 in
theorem ggX8_uproot_X3_at : GoodIn wsX8_uproot wsX3_at := goodIn_r _ [18, 19, 147] (by decide +kernel) (by decide +kernel)
set_option maxRecDepth 20000 in
theorem gX8_uproot_X3_at : GoodIn wsX8_uproot (wsV RX8 84 RX3 yX3_at wsX3_at) := goodIn_app (goodIn_of _ (by decide +kernel)) ggX8_uproot_X3_at
set_option maxRecDepth 20000 in
theorem ggX8_uproot_X3_put : GoodIn wsX8_uproot wsX3_put := goodIn_r _ [23, 19, 147] (by decide +kernel) (by decide +kernel)
set_option maxRecDepth 20000 in
theorem gX8_uproot_X3_put : GoodIn wsX8_uproot (wsV RX8 119 RX3 yX3_put wsX3_put) := goodIn_app (goodIn_of _ (by decide +kernel)) ggX8_uproot_X3_put
set_option maxRecDepth 20000 in
theorem ggX8_uproot_X4_settle : GoodIn wsX8_uproot wsX4_settle := goodIn_r _ [28, 29, 30, 31, 32, 33, 34, 35, 36, 37, 38, 39, 40, 41, 42, 17, 43, 19, 44, 15, 16, 18, 45, 46, 47, 48, 49, 50, 51, 52, 53, 54, 55, 56, 57, 58, 59, 60, 61, 62, 63, 64, 65, 66, 67, 68, 69, 70, 71, 72, 73, 74, 75, 76, 77, 78, 79, 7, 80, 81, 82, 21, 22, 23, 83, 84, 85, 86, 87, 88, 89, 90, 91, 92, 93, 94, 95, 96, 97, 98, 99, 100, 101, 102, 103, 104, 105, 106, 107, 108, 109, 110, 111, 112, 113, 114, 115, 116, 117, 118, 119, 120, 121, 122, 123, 124, 125, 126, 127, 128, 129, 27, 130, 131, 132, 133, 134, 135, 136, 137, 138, 139, 148, 149, 150, 151, 152, 153, 154, 155, 156, 157, 158, 159, 160, 147, 161, 162, 163, 164, 165, 166] (by decide +kernel) (by decide +kernel)
set_option maxRecDepth 20000 in
theorem gX8_uproot_X4_settle : GoodIn wsX8_uproot (wsV RX8 80 RX4 yX4_settle wsX4_settle) := goodIn_app (goodIn_of _ (by decide +kernel)) ggX8_uproot_X4_settle
theorem dX8_uproot_0 : decode cX8_uproot 0 = .ok (.iload_n 1, 1) := by decide +kernel
theorem dX8_uproot_1 : decode cX8_uproot 1 = .ok (.iload_n 2, 1) := by decide +kernel
theorem dX8_uproot_2 : decode cX8_uproot 2 = .ok (.invokestatic 69, 3) := by decide +kernel
theorem dX8_uproot_5 : decode cX8_uproot 5 = .ok (.istore_n 3, 1) := by decide +kernel
theorem dX8_uproot_6 : decode cX8_uproot 6 = .ok (.aload_n 0, 1) := by decide +kernel
theorem dX8_uproot_7 : decode cX8_uproot 7 = .ok (.getfield 21, 3) := by decide +kernel
theorem dX8_uproot_10 : decode cX8_uproot 10 = .ok (.iload_n 3, 1) := by decide +kernel
theorem dX8_uproot_11 : decode cX8_uproot 11 = .ok (.invokevirtual 84, 3) := by decide +kernel
theorem dX8_uproot_14 : decode cX8_uproot 14 = .ok (.ifCond .ne 13, 3) := by decide +kernel
theorem dX8_uproot_17 : decode cX8_uproot 17 = .ok (.new 114, 3) := by decide +kernel
theorem dX8_uproot_20 : decode cX8_uproot 20 = .ok (.dup, 1) := by decide +kernel
theorem dX8_uproot_21 : decode cX8_uproot 21 = .ok (.ldc 122, 2) := by decide +kernel
theorem dX8_uproot_23 : decode cX8_uproot 23 = .ok (.invokespecial 118, 3) := by decide +kernel
theorem dX8_uproot_26 : decode cX8_uproot 26 = .ok (.athrow, 1) := by decide +kernel
theorem dX8_uproot_27 : decode cX8_uproot 27 = .ok (.aload_n 0, 1) := by decide +kernel
theorem dX8_uproot_28 : decode cX8_uproot 28 = .ok (.getfield 21, 3) := by decide +kernel
theorem dX8_uproot_31 : decode cX8_uproot 31 = .ok (.iload_n 3, 1) := by decide +kernel
theorem dX8_uproot_32 : decode cX8_uproot 32 = .ok (.iconst 0, 1) := by decide +kernel
theorem dX8_uproot_33 : decode cX8_uproot 33 = .ok (.invokevirtual 119, 3) := by decide +kernel
theorem dX8_uproot_36 : decode cX8_uproot 36 = .ok (.aload_n 0, 1) := by decide +kernel
theorem dX8_uproot_37 : decode cX8_uproot 37 = .ok (.getfield 39, 3) := by decide +kernel
theorem dX8_uproot_40 : decode cX8_uproot 40 = .ok (.invokevirtual 80, 3) := by decide +kernel
theorem dX8_uproot_43 : decode cX8_uproot 43 = .ok (.ireturn, 1) := by decide +kernel
set_option maxRecDepth 20000 in
theorem ggX8_addWall_X8_cellOf : GoodIn wsX8_addWall wsX8_cellOf := goodIn_ca (goodIn_r _ [11, 12, 13, 14, 15, 10, 16] (by decide +kernel) (by decide +kernel)) (goodIn_sub (fun _ h => List.mem_cons_of_mem _ (List.mem_append_left _ (List.mem_append_right _ h))) (by decide +kernel))
set_option maxRecDepth 20000 in
theorem gX8_addWall_X8_cellOf : GoodIn wsX8_addWall (va_wsS RX8 69 yX8_cellOf wsX8_cellOf) := goodIn_app (goodIn_of _ (by decide +kernel)) ggX8_addWall_X8_cellOf
set_option maxRecDepth 20000 in
theorem ggX8_addWall_X8_sideOf : GoodIn wsX8_addWall wsX8_sideOf := goodIn_ca (goodIn_r _ [19, 20, 21] (by decide +kernel) (by decide +kernel)) (goodIn_sub (fun _ h => List.mem_cons_of_mem _ (List.mem_append_right _ h)) (by decide +kernel))
set_option maxRecDepth 20000 in
theorem gX8_addWall_X8_sideOf : GoodIn wsX8_addWall (va_wsS RX8 124 yX8_sideOf wsX8_sideOf) := goodIn_app (goodIn_of _ (by decide +kernel)) ggX8_addWall_X8_sideOf
set_option maxRecDepth 20000 in
theorem ggX8_addWall_X2_isShut : GoodIn wsX8_addWall wsX2_isShut := goodIn_r _ [26, 27, 28, 29, 25, 30, 31, 32, 10, 33, 34, 35, 36, 37, 38, 39, 115, 116, 117] (by decide +kernel) (by decide +kernel)
set_option maxRecDepth 20000 in
theorem gX8_addWall_X2_isShut : GoodIn wsX8_addWall (wsV RX8 128 RX2 yX2_isShut wsX2_isShut) := goodIn_app (goodIn_of _ (by decide +kernel)) ggX8_addWall_X2_isShut
set_option maxRecDepth 20000 in
theorem ggX8_addWall_X2_build : GoodIn wsX8_addWall wsX2_build := goodIn_r _ [43, 31, 44, 45, 46, 25, 47, 32, 10, 33, 48, 49, 50, 37, 51, 39, 52, 53, 54, 55, 115, 116, 117] (by decide +kernel) (by decide +kernel)
set_option maxRecDepth 20000 in
theorem gX8_addWall_X2_build : GoodIn wsX8_addWall (wsV RX8 134 RX2 yX2_build wsX2_build) := goodIn_app (goodIn_of _ (by decide +kernel)) ggX8_addWall_X2_build
set_option maxRecDepth 20000 in
theorem ggX8_addWall_X1_spread : GoodIn wsX8_addWall wsX1_spread := goodIn_r _ [60, 61, 62, 63, 64, 65, 66, 37, 67, 39, 68, 69, 70, 71, 72, 73, 74, 75, 76, 77, 28, 29, 25, 30, 31, 32, 10, 33, 34, 35, 36, 38, 78, 79, 80, 59, 81, 82, 52, 53, 83, 84, 49, 50, 51, 85, 86, 87, 88, 89, 90, 91, 92, 93, 94, 95, 96, 97, 98, 99, 100, 101, 102, 103, 118, 119, 120, 121, 117, 122, 123, 124, 125, 115, 116] (by decide +kernel) (by decide +kernel)
set_option maxRecDepth 20000 in
theorem gX8_addWall_X1_spread : GoodIn wsX8_addWall (wsV RX8 138 RX1 yX1_spread wsX1_spread) := goodIn_app (goodIn_of _ (by decide +kernel)) ggX8_addWall_X1_spread
set_option maxRecDepth 20000 in
theorem ggX8_addWall_X2_pullDown : GoodIn wsX8_addWall wsX2_pullDown := goodIn_r _ [107, 31, 44, 45, 46, 25, 47, 32, 10, 33, 48, 49, 50, 37, 51, 39, 52, 53, 54, 55, 115, 116, 117] (by decide +kernel) (by decide +kernel)
set_option maxRecDepth 20000 in
theorem gX8_addWall_X2_pullDown : GoodIn wsX8_addWall (wsV RX8 141 RX2 yX2_pullDown wsX2_pullDown) := goodIn_app (goodIn_of _ (by decide +kernel)) ggX8_addWall_X2_pullDown
theorem dX8_addWall_0 : decode cX8_addWall 0 = .ok (.iload_n 1, 1) := by decide +kernel
theorem dX8_addWall_1 : decode cX8_addWall 1 = .ok (.iload_n 2, 1) := by decide +kernel
theorem dX8_addWall_2 : decode cX8_addWall 2 = .ok (.invokestatic 69, 3) := by decide +kernel
theorem dX8_addWall_5 : decode cX8_addWall 5 = .ok (.istore 4, 2) := by decide +kernel
theorem dX8_addWall_7 : decode cX8_addWall 7 = .ok (.iload_n 3, 1) := by decide +kernel
theorem dX8_addWall_8 : decode cX8_addWall 8 = .ok (.invokestatic 124, 3) := by decide +kernel
theorem dX8_addWall_11 : decode cX8_addWall 11 = .ok (.istore 5, 2) := by decide +kernel
theorem dX8_addWall_13 : decode cX8_addWall 13 = .ok (.aload_n 0, 1) := by decide +kernel
theorem dX8_addWall_14 : decode cX8_addWall 14 = .ok (.getfield 12, 3) := by decide +kernel
theorem dX8_addWall_17 : decode cX8_addWall 17 = .ok (.iload 4, 2) := by decide +kernel
theorem dX8_addWall_19 : decode cX8_addWall 19 = .ok (.iload 5, 2) := by decide +kernel
theorem dX8_addWall_21 : decode cX8_addWall 21 = .ok (.invokevirtual 128, 3) := by decide +kernel
theorem dX8_addWall_24 : decode cX8_addWall 24 = .ok (.ifCond .eq 13, 3) := by decide +kernel
theorem dX8_addWall_27 : decode cX8_addWall 27 = .ok (.new 114, 3) := by decide +kernel
theorem dX8_addWall_30 : decode cX8_addWall 30 = .ok (.dup, 1) := by decide +kernel
theorem dX8_addWall_31 : decode cX8_addWall 31 = .ok (.ldc 132, 2) := by decide +kernel
theorem dX8_addWall_33 : decode cX8_addWall 33 = .ok (.invokespecial 118, 3) := by decide +kernel
theorem dX8_addWall_36 : decode cX8_addWall 36 = .ok (.athrow, 1) := by decide +kernel
theorem dX8_addWall_37 : decode cX8_addWall 37 = .ok (.aload_n 0, 1) := by decide +kernel
theorem dX8_addWall_38 : decode cX8_addWall 38 = .ok (.getfield 12, 3) := by decide +kernel
theorem dX8_addWall_41 : decode cX8_addWall 41 = .ok (.iload 4, 2) := by decide +kernel
theorem dX8_addWall_43 : decode cX8_addWall 43 = .ok (.iload 5, 2) := by decide +kernel
theorem dX8_addWall_45 : decode cX8_addWall 45 = .ok (.invokevirtual 134, 3) := by decide +kernel
theorem dX8_addWall_48 : decode cX8_addWall 48 = .ok (.aload_n 0, 1) := by decide +kernel
theorem dX8_addWall_49 : decode cX8_addWall 49 = .ok (.getfield 65, 3) := by decide +kernel
theorem dX8_addWall_52 : decode cX8_addWall 52 = .ok (.ldc 137, 2) := by decide +kernel
theorem dX8_addWall_54 : decode cX8_addWall 54 = .ok (.invokevirtual 138, 3) := by decide +kernel
theorem dX8_addWall_57 : decode cX8_addWall 57 = .ok (.bipush 42, 2) := by decide +kernel
theorem dX8_addWall_59 : decode cX8_addWall 59 = .ok (.if_icmp .ge 24, 3) := by decide +kernel
theorem dX8_addWall_62 : decode cX8_addWall 62 = .ok (.aload_n 0, 1) := by decide +kernel
theorem dX8_addWall_63 : decode cX8_addWall 63 = .ok (.getfield 12, 3) := by decide +kernel
theorem dX8_addWall_66 : decode cX8_addWall 66 = .ok (.iload 4, 2) := by decide +kernel
theorem dX8_addWall_68 : decode cX8_addWall 68 = .ok (.iload 5, 2) := by decide +kernel
theorem dX8_addWall_70 : decode cX8_addWall 70 = .ok (.invokevirtual 141, 3) := by decide +kernel
theorem dX8_addWall_73 : decode cX8_addWall 73 = .ok (.new 144, 3) := by decide +kernel
theorem dX8_addWall_76 : decode cX8_addWall 76 = .ok (.dup, 1) := by decide +kernel
theorem dX8_addWall_77 : decode cX8_addWall 77 = .ok (.ldc 146, 2) := by decide +kernel
theorem dX8_addWall_79 : decode cX8_addWall 79 = .ok (.invokespecial 148, 3) := by decide +kernel
theorem dX8_addWall_82 : decode cX8_addWall 82 = .ok (.athrow, 1) := by decide +kernel
theorem dX8_addWall_83 : decode cX8_addWall 83 = .ok (.aload_n 0, 1) := by decide +kernel
theorem dX8_addWall_84 : decode cX8_addWall 84 = .ok (.getfield 12, 3) := by decide +kernel
theorem dX8_addWall_87 : decode cX8_addWall 87 = .ok (.getfield 149, 3) := by decide +kernel
theorem dX8_addWall_90 : decode cX8_addWall 90 = .ok (.ireturn, 1) := by decide +kernel
set_option maxRecDepth 20000 in
theorem ggX8_removeWall_X8_cellOf : GoodIn wsX8_removeWall wsX8_cellOf := goodIn_ca (goodIn_r _ [7, 8, 9, 10, 11, 6, 12] (by decide +kernel) (by decide +kernel)) (goodIn_sub (fun _ h => List.mem_cons_of_mem _ (List.mem_append_left _ (List.mem_append_right _ h))) (by decide +kernel))
set_option maxRecDepth 20000 in
theorem gX8_removeWall_X8_cellOf : GoodIn wsX8_removeWall (va_wsS RX8 69 yX8_cellOf wsX8_cellOf) := goodIn_app (goodIn_of _ (by decide +kernel)) ggX8_removeWall_X8_cellOf
set_option maxRecDepth 20000 in
theorem ggX8_removeWall_X8_sideOf : GoodIn wsX8_removeWall wsX8_sideOf := goodIn_ca (goodIn_r _ [15, 16, 17] (by decide +kernel) (by decide +kernel)) (goodIn_sub (fun _ h => List.mem_cons_of_mem _ (List.mem_append_right _ h)) (by decide +kernel))
set_option maxRecDepth 20000 in
theorem gX8_removeWall_X8_sideOf : GoodIn wsX8_removeWall (va_wsS RX8 124 yX8_sideOf wsX8_sideOf) := goodIn_app (goodIn_of _ (by decide +kernel)) ggX8_removeWall_X8_sideOf
set_option maxRecDepth 20000 in
theorem ggX8_removeWall_X2_hasWall : GoodIn wsX8_removeWall wsX2_hasWall := goodIn_r _ [22, 23, 24, 25, 21, 26, 27, 28, 29, 30, 31, 32, 6, 33, 34, 35, 36, 37, 38, 39, 40, 41, 42, 63, 64, 65] (by decide +kernel) (by decide +kernel)
set_option maxRecDepth 20000 in
theorem gX8_removeWall_X2_hasWall : GoodIn wsX8_removeWall (wsV RX8 153 RX2 yX2_hasWall wsX2_hasWall) := goodIn_app (goodIn_of _ (by decide +kernel)) ggX8_removeWall_X2_hasWall
set_option maxRecDepth 20000 in
theorem ggX8_removeWall_X2_pullDown : GoodIn wsX8_removeWall wsX2_pullDown := goodIn_r _ [46, 31, 47, 40, 41, 21, 42, 32, 6, 33, 48, 49, 50, 37, 51, 39, 52, 53, 54, 55, 63, 64, 65] (by decide +kernel) (by decide +kernel)
set_option maxRecDepth 20000 in
theorem gX8_removeWall_X2_pullDown : GoodIn wsX8_removeWall (wsV RX8 141 RX2 yX2_pullDown wsX2_pullDown) := goodIn_app (goodIn_of _ (by decide +kernel)) ggX8_removeWall_X2_pullDown
theorem dX8_removeWall_0 : decode cX8_removeWall 0 = .ok (.iload_n 1, 1) := by decide +kernel
theorem dX8_removeWall_1 : decode cX8_removeWall 1 = .ok (.iload_n 2, 1) := by decide +kernel
theorem dX8_removeWall_2 : decode cX8_removeWall 2 = .ok (.invokestatic 69, 3) := by decide +kernel
theorem dX8_removeWall_5 : decode cX8_removeWall 5 = .ok (.istore 4, 2) := by decide +kernel
theorem dX8_removeWall_7 : decode cX8_removeWall 7 = .ok (.iload_n 3, 1) := by decide +kernel
theorem dX8_removeWall_8 : decode cX8_removeWall 8 = .ok (.invokestatic 124, 3) := by decide +kernel
theorem dX8_removeWall_11 : decode cX8_removeWall 11 = .ok (.istore 5, 2) := by decide +kernel
theorem dX8_removeWall_13 : decode cX8_removeWall 13 = .ok (.aload_n 0, 1) := by decide +kernel
theorem dX8_removeWall_14 : decode cX8_removeWall 14 = .ok (.getfield 12, 3) := by decide +kernel
theorem dX8_removeWall_17 : decode cX8_removeWall 17 = .ok (.iload 4, 2) := by decide +kernel
theorem dX8_removeWall_19 : decode cX8_removeWall 19 = .ok (.iload 5, 2) := by decide +kernel
theorem dX8_removeWall_21 : decode cX8_removeWall 21 = .ok (.invokevirtual 153, 3) := by decide +kernel
theorem dX8_removeWall_24 : decode cX8_removeWall 24 = .ok (.ifCond .ne 13, 3) := by decide +kernel
theorem dX8_removeWall_27 : decode cX8_removeWall 27 = .ok (.new 88, 3) := by decide +kernel
theorem dX8_removeWall_30 : decode cX8_removeWall 30 = .ok (.dup, 1) := by decide +kernel
theorem dX8_removeWall_31 : decode cX8_removeWall 31 = .ok (.ldc 156, 2) := by decide +kernel
theorem dX8_removeWall_33 : decode cX8_removeWall 33 = .ok (.invokespecial 92, 3) := by decide +kernel
theorem dX8_removeWall_36 : decode cX8_removeWall 36 = .ok (.athrow, 1) := by decide +kernel
theorem dX8_removeWall_37 : decode cX8_removeWall 37 = .ok (.aload_n 0, 1) := by decide +kernel
theorem dX8_removeWall_38 : decode cX8_removeWall 38 = .ok (.getfield 12, 3) := by decide +kernel
theorem dX8_removeWall_41 : decode cX8_removeWall 41 = .ok (.iload 4, 2) := by decide +kernel
theorem dX8_removeWall_43 : decode cX8_removeWall 43 = .ok (.iload 5, 2) := by decide +kernel
theorem dX8_removeWall_45 : decode cX8_removeWall 45 = .ok (.invokevirtual 141, 3) := by decide +kernel
theorem dX8_removeWall_48 : decode cX8_removeWall 48 = .ok (.aload_n 0, 1) := by decide +kernel
theorem dX8_removeWall_49 : decode cX8_removeWall 49 = .ok (.getfield 12, 3) := by decide +kernel
theorem dX8_removeWall_52 : decode cX8_removeWall 52 = .ok (.getfield 149, 3) := by decide +kernel
theorem dX8_removeWall_55 : decode cX8_removeWall 55 = .ok (.ireturn, 1) := by decide +kernel
set_option maxRecDepth 20000 in
theorem ggX8_isClosed_X8_cellOf : GoodIn wsX8_isClosed wsX8_cellOf := goodIn_ca (goodIn_r _ [5, 6, 7, 8, 9, 4, 10] (by decide +kernel) (by decide +kernel)) (goodIn_sub (fun _ h => List.mem_cons_of_mem _ (List.mem_append_left _ (List.mem_append_right _ h))) (by decide +kernel))
set_option maxRecDepth 20000 in
theorem gX8_isClosed_X8_cellOf : GoodIn wsX8_isClosed (va_wsS RX8 69 yX8_cellOf wsX8_cellOf) := goodIn_app (goodIn_of _ (by decide +kernel)) ggX8_isClosed_X8_cellOf
set_option maxRecDepth 20000 in
theorem ggX8_isClosed_X8_sideOf : GoodIn wsX8_isClosed wsX8_sideOf := goodIn_ca (goodIn_r _ [13, 14, 15] (by decide +kernel) (by decide +kernel)) (goodIn_sub (fun _ h => List.mem_cons_of_mem _ (List.mem_append_right _ h)) (by decide +kernel))
set_option maxRecDepth 20000 in
theorem gX8_isClosed_X8_sideOf : GoodIn wsX8_isClosed (va_wsS RX8 124 yX8_sideOf wsX8_sideOf) := goodIn_app (goodIn_of _ (by decide +kernel)) ggX8_isClosed_X8_sideOf
set_option maxRecDepth 20000 in
theorem ggX8_isClosed_X2_isShut : GoodIn wsX8_isClosed wsX2_isShut := goodIn_r _ [20, 21, 22, 23, 19, 24, 25, 26, 4, 27, 28, 29, 30, 31, 32, 33, 41, 42, 43] (by decide +kernel) (by decide +kernel)
set_option maxRecDepth 20000 in
theorem gX8_isClosed_X2_isShut : GoodIn wsX8_isClosed (wsV RX8 128 RX2 yX2_isShut wsX2_isShut) := goodIn_app (goodIn_of _ (by decide +kernel)) ggX8_isClosed_X2_isShut
theorem dX8_isClosed_0 : decode cX8_isClosed 0 = .ok (.iload_n 1, 1) := by decide +kernel
theorem dX8_isClosed_1 : decode cX8_isClosed 1 = .ok (.iload_n 2, 1) := by decide +kernel
theorem dX8_isClosed_2 : decode cX8_isClosed 2 = .ok (.invokestatic 69, 3) := by decide +kernel
theorem dX8_isClosed_5 : decode cX8_isClosed 5 = .ok (.istore 4, 2) := by decide +kernel
theorem dX8_isClosed_7 : decode cX8_isClosed 7 = .ok (.aload_n 0, 1) := by decide +kernel
theorem dX8_isClosed_8 : decode cX8_isClosed 8 = .ok (.getfield 12, 3) := by decide +kernel
theorem dX8_isClosed_11 : decode cX8_isClosed 11 = .ok (.iload 4, 2) := by decide +kernel
theorem dX8_isClosed_13 : decode cX8_isClosed 13 = .ok (.iload_n 3, 1) := by decide +kernel
theorem dX8_isClosed_14 : decode cX8_isClosed 14 = .ok (.invokestatic 124, 3) := by decide +kernel
theorem dX8_isClosed_17 : decode cX8_isClosed 17 = .ok (.invokevirtual 128, 3) := by decide +kernel
theorem dX8_isClosed_20 : decode cX8_isClosed 20 = .ok (.ireturn, 1) := by decide +kernel
set_option maxRecDepth 20000 in
theorem ggX8_isPlanted_X8_cellOf : GoodIn wsX8_isPlanted wsX8_cellOf := goodIn_ca (goodIn_r _ [5, 6, 7, 8, 9, 4, 10] (by decide +kernel) (by decide +kernel)) (goodIn_sub (fun _ h => List.mem_cons_of_mem _ (List.mem_append_right _ h)) (by decide +kernel))
set_option maxRecDepth 20000 in
theorem gX8_isPlanted_X8_cellOf : GoodIn wsX8_isPlanted (va_wsS RX8 69 yX8_cellOf wsX8_cellOf) := goodIn_app (goodIn_of _ (by decide +kernel)) ggX8_isPlanted_X8_cellOf
set_option maxRecDepth 20000 in
theorem ggX8_isPlanted_X3_at : GoodIn wsX8_isPlanted wsX3_at := goodIn_r _ [15, 16, 24] (by decide +kernel) (by decide +kernel)
set_option maxRecDepth 20000 in
theorem gX8_isPlanted_X3_at : GoodIn wsX8_isPlanted (wsV RX8 84 RX3 yX3_at wsX3_at) := goodIn_app (goodIn_of _ (by decide +kernel)) ggX8_isPlanted_X3_at
theorem dX8_isPlanted_0 : decode cX8_isPlanted 0 = .ok (.aload_n 0, 1) := by decide +kernel
theorem dX8_isPlanted_1 : decode cX8_isPlanted 1 = .ok (.getfield 21, 3) := by decide +kernel
theorem dX8_isPlanted_4 : decode cX8_isPlanted 4 = .ok (.iload_n 1, 1) := by decide +kernel
theorem dX8_isPlanted_5 : decode cX8_isPlanted 5 = .ok (.iload_n 2, 1) := by decide +kernel
theorem dX8_isPlanted_6 : decode cX8_isPlanted 6 = .ok (.invokestatic 69, 3) := by decide +kernel
theorem dX8_isPlanted_9 : decode cX8_isPlanted 9 = .ok (.invokevirtual 84, 3) := by decide +kernel
theorem dX8_isPlanted_12 : decode cX8_isPlanted 12 = .ok (.ifCond .eq 7, 3) := by decide +kernel
theorem dX8_isPlanted_15 : decode cX8_isPlanted 15 = .ok (.iconst 1, 1) := by decide +kernel
theorem dX8_isPlanted_16 : decode cX8_isPlanted 16 = .ok (.goto 4, 3) := by decide +kernel
theorem dX8_isPlanted_19 : decode cX8_isPlanted 19 = .ok (.iconst 0, 1) := by decide +kernel
theorem dX8_isPlanted_20 : decode cX8_isPlanted 20 = .ok (.ireturn, 1) := by decide +kernel
set_option maxRecDepth 20000 in
theorem ggX8_wave_X8_needColumn : GoodIn wsX8_wave wsX8_needColumn := goodIn_ca (goodIn_r _ [6, 7, 8] (by decide +kernel) (by decide +kernel)) (goodIn_sub (fun _ h => List.mem_cons_of_mem _ (List.mem_append_left _ (List.mem_append_right _ h))) (by decide +kernel))
set_option maxRecDepth 20000 in
theorem gX8_wave_X8_needColumn : GoodIn wsX8_wave (va_wsS RX8 158 yX8_needColumn wsX8_needColumn) := goodIn_app (goodIn_of _ (by decide +kernel)) ggX8_wave_X8_needColumn
set_option maxRecDepth 20000 in
theorem ggX8_wave_X8_needEnergy : GoodIn wsX8_wave wsX8_needEnergy := goodIn_ca (goodIn_r _ [11, 12, 13] (by decide +kernel) (by decide +kernel)) (goodIn_sub (fun _ h => List.mem_cons_of_mem _ (List.mem_append_right _ h)) (by decide +kernel))
set_option maxRecDepth 20000 in
theorem gX8_wave_X8_needEnergy : GoodIn wsX8_wave (va_wsS RX8 161 yX8_needEnergy wsX8_needEnergy) := goodIn_app (goodIn_of _ (by decide +kernel)) ggX8_wave_X8_needEnergy
set_option maxRecDepth 20000 in
theorem ggX8_wave_X7_come : GoodIn wsX8_wave wsX7_come := goodIn_r _ [18, 19, 20, 21, 22, 23, 24, 25, 17, 26, 27, 28, 5, 29, 30, 31, 32, 33, 34, 35, 36, 37, 38, 39, 40, 41, 42, 43, 44, 45, 46, 47, 48, 49, 50, 51, 52, 53, 54, 55, 56, 57, 58, 59, 60, 61, 62, 63, 64, 65, 66, 67, 68, 69, 70, 71, 72, 184, 185, 186, 187, 188, 189, 190, 191, 192, 193, 194, 195, 196, 197, 198, 199, 200] (by decide +kernel) (by decide +kernel)
set_option maxRecDepth 20000 in
theorem gX8_wave_X7_come : GoodIn wsX8_wave (wsV RX8 164 RX7 yX7_come wsX7_come) := goodIn_app (goodIn_of _ (by decide +kernel)) ggX8_wave_X7_come
set_option maxRecDepth 20000 in
theorem ggX8_wave_X4_settle : GoodIn wsX8_wave wsX4_settle := goodIn_r _ [76, 77, 63, 78, 79, 80, 81, 82, 83, 84, 85, 86, 87, 88, 89, 45, 90, 47, 91, 43, 44, 46, 92, 93, 94, 95, 96, 97, 98, 99, 100, 101, 102, 103, 104, 105, 106, 107, 108, 109, 110, 111, 112, 113, 114, 115, 116, 117, 118, 119, 120, 121, 122, 123, 124, 125, 126, 5, 127, 128, 129, 130, 131, 132, 133, 134, 135, 136, 137, 138, 139, 140, 141, 142, 143, 144, 145, 146, 147, 148, 33, 149, 35, 36, 37, 38, 39, 40, 41, 42, 150, 66, 67, 68, 151, 152, 153, 154, 155, 156, 157, 158, 159, 160, 161, 162, 163, 164, 165, 166, 167, 61, 168, 169, 170, 171, 172, 65, 173, 174, 175, 176, 190, 191, 192, 193, 194, 195, 196, 197, 201, 202, 203, 204, 205, 200, 206, 207, 208, 209, 198, 199] (by decide +kernel) (by decide +kernel)
set_option maxRecDepth 20000 in
theorem gX8_wave_X4_settle : GoodIn wsX8_wave (wsV RX8 80 RX4 yX4_settle wsX4_settle) := goodIn_app (goodIn_of _ (by decide +kernel)) ggX8_wave_X4_settle
theorem dX8_wave_0 : decode cX8_wave 0 = .ok (.iload_n 1, 1) := by decide +kernel
theorem dX8_wave_1 : decode cX8_wave 1 = .ok (.invokestatic 158, 3) := by decide +kernel
theorem dX8_wave_4 : decode cX8_wave 4 = .ok (.iload_n 2, 1) := by decide +kernel
theorem dX8_wave_5 : decode cX8_wave 5 = .ok (.invokestatic 161, 3) := by decide +kernel
theorem dX8_wave_8 : decode cX8_wave 8 = .ok (.aload_n 0, 1) := by decide +kernel
theorem dX8_wave_9 : decode cX8_wave 9 = .ok (.getfield 48, 3) := by decide +kernel
theorem dX8_wave_12 : decode cX8_wave 12 = .ok (.iload_n 1, 1) := by decide +kernel
theorem dX8_wave_13 : decode cX8_wave 13 = .ok (.iload_n 2, 1) := by decide +kernel
theorem dX8_wave_14 : decode cX8_wave 14 = .ok (.invokevirtual 164, 3) := by decide +kernel
theorem dX8_wave_17 : decode cX8_wave 17 = .ok (.istore_n 3, 1) := by decide +kernel
theorem dX8_wave_18 : decode cX8_wave 18 = .ok (.aload_n 0, 1) := by decide +kernel
theorem dX8_wave_19 : decode cX8_wave 19 = .ok (.getfield 39, 3) := by decide +kernel
theorem dX8_wave_22 : decode cX8_wave 22 = .ok (.invokevirtual 80, 3) := by decide +kernel
theorem dX8_wave_25 : decode cX8_wave 25 = .ok (.pop, 1) := by decide +kernel
theorem dX8_wave_26 : decode cX8_wave 26 = .ok (.iload_n 3, 1) := by decide +kernel
theorem dX8_wave_27 : decode cX8_wave 27 = .ok (.ireturn, 1) := by decide +kernel
set_option maxRecDepth 20000 in
theorem ggX8_wind_X8_isBlownFrom : GoodIn wsX8_wind wsX8_isBlownFrom := goodIn_r _ [9, 10, 3, 4, 11, 12, 13, 14, 15, 16, 17, 18, 19, 20, 21, 22, 23, 24, 25, 26, 27, 8, 28, 29, 146, 147, 148, 149, 150, 151, 152, 153, 154, 155, 156, 157, 158, 159, 160, 161, 162, 163] (by decide +kernel) (by decide +kernel)
set_option maxRecDepth 20000 in
theorem gX8_wind_X8_isBlownFrom : GoodIn wsX8_wind (wsV RX8 172 RX8 yX8_isBlownFrom wsX8_isBlownFrom) := goodIn_app (goodIn_of _ (by decide +kernel)) ggX8_wind_X8_isBlownFrom
set_option maxRecDepth 20000 in
theorem ggX8_wind_X4_carry : GoodIn wsX8_wind wsX4_carry := goodIn_r _ [34, 35, 36, 37, 38, 39, 14, 40, 16, 153, 154, 155, 156, 157, 158, 159, 160, 161] (by decide +kernel) (by decide +kernel)
set_option maxRecDepth 20000 in
theorem gX8_wind_X4_carry : GoodIn wsX8_wind (wsV RX8 175 RX4 yX4_carry wsX4_carry) := goodIn_app (goodIn_of _ (by decide +kernel)) ggX8_wind_X4_carry
set_option maxRecDepth 20000 in
theorem ggX8_wind_X2_leadsTo : GoodIn wsX8_wind wsX2_leadsTo := goodIn_r _ [25, 26, 27, 8, 28, 29, 12, 13, 14, 15, 16, 162, 163, 161] (by decide +kernel) (by decide +kernel)
set_option maxRecDepth 20000 in
theorem gX8_wind_X2_leadsTo : GoodIn wsX8_wind (wsV RX8 178 RX2 yX2_leadsTo wsX2_leadsTo) := goodIn_app (goodIn_of _ (by decide +kernel)) ggX8_wind_X2_leadsTo
set_option maxRecDepth 20000 in
theorem ggX8_wind_X4_settle : GoodIn wsX8_wind wsX4_settle := goodIn_r _ [45, 46, 35, 47, 48, 49, 50, 51, 52, 53, 54, 55, 56, 57, 58, 14, 59, 16, 60, 12, 13, 15, 61, 62, 63, 64, 65, 66, 67, 68, 69, 70, 71, 72, 73, 74, 75, 76, 77, 78, 79, 80, 81, 82, 83, 84, 85, 86, 87, 88, 89, 90, 91, 92, 93, 94, 95, 8, 96, 97, 98, 99, 100, 101, 102, 103, 104, 105, 106, 107, 108, 109, 110, 111, 112, 113, 114, 115, 116, 117, 20, 118, 22, 23, 24, 25, 26, 27, 28, 29, 119, 38, 39, 40, 120, 121, 122, 123, 124, 125, 126, 127, 128, 129, 130, 131, 132, 133, 134, 135, 136, 33, 137, 138, 139, 140, 141, 37, 142, 143, 144, 145, 153, 154, 155, 156, 157, 158, 159, 160, 164, 165, 166, 167, 168, 161, 169, 170, 171, 172, 162, 163] (by decide +kernel) (by decide +kernel)
set_option maxRecDepth 20000 in
theorem gX8_wind_X4_settle : GoodIn wsX8_wind (wsV RX8 80 RX4 yX4_settle wsX4_settle) := goodIn_app (goodIn_of _ (by decide +kernel)) ggX8_wind_X4_settle
theorem dX8_wind_0 : decode cX8_wind 0 = .ok (.iload_n 1, 1) := by decide +kernel
theorem dX8_wind_1 : decode cX8_wind 1 = .ok (.iconst 1, 1) := by decide +kernel
theorem dX8_wind_2 : decode cX8_wind 2 = .ok (.if_icmp .lt 9, 3) := by decide +kernel
theorem dX8_wind_5 : decode cX8_wind 5 = .ok (.iload_n 1, 1) := by decide +kernel
theorem dX8_wind_6 : decode cX8_wind 6 = .ok (.bipush 9, 2) := by decide +kernel
theorem dX8_wind_8 : decode cX8_wind 8 = .ok (.if_icmp .le 13, 3) := by decide +kernel
theorem dX8_wind_11 : decode cX8_wind 11 = .ok (.new 167, 3) := by decide +kernel
theorem dX8_wind_14 : decode cX8_wind 14 = .ok (.dup, 1) := by decide +kernel
theorem dX8_wind_15 : decode cX8_wind 15 = .ok (.ldc 169, 2) := by decide +kernel
theorem dX8_wind_17 : decode cX8_wind 17 = .ok (.invokespecial 171, 3) := by decide +kernel
theorem dX8_wind_20 : decode cX8_wind 20 = .ok (.athrow, 1) := by decide +kernel
theorem dX8_wind_21 : decode cX8_wind 21 = .ok (.iconst 0, 1) := by decide +kernel
theorem dX8_wind_22 : decode cX8_wind 22 = .ok (.istore_n 2, 1) := by decide +kernel
theorem dX8_wind_23 : decode cX8_wind 23 = .ok (.bipush 41, 2) := by decide +kernel
theorem dX8_wind_25 : decode cX8_wind 25 = .ok (.istore_n 3, 1) := by decide +kernel
theorem dX8_wind_26 : decode cX8_wind 26 = .ok (.iload_n 3, 1) := by decide +kernel
theorem dX8_wind_27 : decode cX8_wind 27 = .ok (.ifCond .lt 47, 3) := by decide +kernel
theorem dX8_wind_30 : decode cX8_wind 30 = .ok (.aload_n 0, 1) := by decide +kernel
theorem dX8_wind_31 : decode cX8_wind 31 = .ok (.iload_n 3, 1) := by decide +kernel
theorem dX8_wind_32 : decode cX8_wind 32 = .ok (.iload_n 1, 1) := by decide +kernel
theorem dX8_wind_33 : decode cX8_wind 33 = .ok (.invokevirtual 172, 3) := by decide +kernel
theorem dX8_wind_36 : decode cX8_wind 36 = .ok (.ifCond .eq 32, 3) := by decide +kernel
theorem dX8_wind_39 : decode cX8_wind 39 = .ok (.aload_n 0, 1) := by decide +kernel
theorem dX8_wind_40 : decode cX8_wind 40 = .ok (.getfield 39, 3) := by decide +kernel
theorem dX8_wind_43 : decode cX8_wind 43 = .ok (.iload_n 3, 1) := by decide +kernel
theorem dX8_wind_44 : decode cX8_wind 44 = .ok (.iconst (-1), 1) := by decide +kernel
theorem dX8_wind_45 : decode cX8_wind 45 = .ok (.invokevirtual 175, 3) := by decide +kernel
theorem dX8_wind_48 : decode cX8_wind 48 = .ok (.aload_n 0, 1) := by decide +kernel
theorem dX8_wind_49 : decode cX8_wind 49 = .ok (.getfield 39, 3) := by decide +kernel
theorem dX8_wind_52 : decode cX8_wind 52 = .ok (.aload_n 0, 1) := by decide +kernel
theorem dX8_wind_53 : decode cX8_wind 53 = .ok (.getfield 12, 3) := by decide +kernel
theorem dX8_wind_56 : decode cX8_wind 56 = .ok (.iload_n 3, 1) := by decide +kernel
theorem dX8_wind_57 : decode cX8_wind 57 = .ok (.iconst 1, 1) := by decide +kernel
theorem dX8_wind_58 : decode cX8_wind 58 = .ok (.invokevirtual 178, 3) := by decide +kernel
theorem dX8_wind_61 : decode cX8_wind 61 = .ok (.iconst 1, 1) := by decide +kernel
theorem dX8_wind_62 : decode cX8_wind 62 = .ok (.invokevirtual 175, 3) := by decide +kernel
theorem dX8_wind_65 : decode cX8_wind 65 = .ok (.iinc 2 1, 3) := by decide +kernel
theorem dX8_wind_68 : decode cX8_wind 68 = .ok (.iinc 3 (-1), 3) := by decide +kernel
theorem dX8_wind_71 : decode cX8_wind 71 = .ok (.goto (-45), 3) := by decide +kernel
theorem dX8_wind_74 : decode cX8_wind 74 = .ok (.aload_n 0, 1) := by decide +kernel
theorem dX8_wind_75 : decode cX8_wind 75 = .ok (.getfield 39, 3) := by decide +kernel
theorem dX8_wind_78 : decode cX8_wind 78 = .ok (.invokevirtual 80, 3) := by decide +kernel
theorem dX8_wind_81 : decode cX8_wind 81 = .ok (.pop, 1) := by decide +kernel
theorem dX8_wind_82 : decode cX8_wind 82 = .ok (.iload_n 2, 1) := by decide +kernel
theorem dX8_wind_83 : decode cX8_wind 83 = .ok (.ireturn, 1) := by decide +kernel
set_option maxRecDepth 20000 in
theorem ggX8_addStep_X8_needColumn : GoodIn wsX8_addStep wsX8_needColumn := goodIn_ca (goodIn_r _ [7, 8, 9] (by decide +kernel) (by decide +kernel)) (goodIn_sub (fun _ h => List.mem_cons_of_mem _ (List.mem_append_left _ (List.mem_append_right _ h))) (by decide +kernel))
set_option maxRecDepth 20000 in
theorem gX8_addStep_X8_needColumn : GoodIn wsX8_addStep (va_wsS RX8 158 yX8_needColumn wsX8_needColumn) := goodIn_app (goodIn_of _ (by decide +kernel)) ggX8_addStep_X8_needColumn
set_option maxRecDepth 20000 in
theorem ggX8_addStep_X8_needEnergy : GoodIn wsX8_addStep wsX8_needEnergy := goodIn_ca (goodIn_r _ [12, 13, 14] (by decide +kernel) (by decide +kernel)) (goodIn_sub (fun _ h => List.mem_cons_of_mem _ (List.mem_append_right _ h)) (by decide +kernel))
set_option maxRecDepth 20000 in
theorem gX8_addStep_X8_needEnergy : GoodIn wsX8_addStep (va_wsS RX8 161 yX8_needEnergy wsX8_needEnergy) := goodIn_app (goodIn_of _ (by decide +kernel)) ggX8_addStep_X8_needEnergy
set_option maxRecDepth 20000 in
theorem ggX8_addStep_X5_append : GoodIn wsX8_addStep wsX5_append := goodIn_r _ [19, 20, 21, 22, 23, 24, 25, 26, 27, 28, 36, 37, 38, 39] (by decide +kernel) (by decide +kernel)
set_option maxRecDepth 20000 in
theorem gX8_addStep_X5_append : GoodIn wsX8_addStep (wsV RX8 186 RX5 yX5_append wsX5_append) := goodIn_app (goodIn_of _ (by decide +kernel)) ggX8_addStep_X5_append
theorem dX8_addStep_0 : decode cX8_addStep 0 = .ok (.iload_n 1, 1) := by decide +kernel
theorem dX8_addStep_1 : decode cX8_addStep 1 = .ok (.invokestatic 158, 3) := by decide +kernel
theorem dX8_addStep_4 : decode cX8_addStep 4 = .ok (.iload_n 2, 1) := by decide +kernel
theorem dX8_addStep_5 : decode cX8_addStep 5 = .ok (.invokestatic 161, 3) := by decide +kernel
theorem dX8_addStep_8 : decode cX8_addStep 8 = .ok (.aload_n 0, 1) := by decide +kernel
theorem dX8_addStep_9 : decode cX8_addStep 9 = .ok (.getfield 55, 3) := by decide +kernel
theorem dX8_addStep_12 : decode cX8_addStep 12 = .ok (.getfield 181, 3) := by decide +kernel
theorem dX8_addStep_15 : decode cX8_addStep 15 = .ok (.bipush 8, 2) := by decide +kernel
theorem dX8_addStep_17 : decode cX8_addStep 17 = .ok (.if_icmp .lt 13, 3) := by decide +kernel
theorem dX8_addStep_20 : decode cX8_addStep 20 = .ok (.new 114, 3) := by decide +kernel
theorem dX8_addStep_23 : decode cX8_addStep 23 = .ok (.dup, 1) := by decide +kernel
theorem dX8_addStep_24 : decode cX8_addStep 24 = .ok (.ldc 184, 2) := by decide +kernel
theorem dX8_addStep_26 : decode cX8_addStep 26 = .ok (.invokespecial 118, 3) := by decide +kernel
theorem dX8_addStep_29 : decode cX8_addStep 29 = .ok (.athrow, 1) := by decide +kernel
theorem dX8_addStep_30 : decode cX8_addStep 30 = .ok (.aload_n 0, 1) := by decide +kernel
theorem dX8_addStep_31 : decode cX8_addStep 31 = .ok (.getfield 55, 3) := by decide +kernel
theorem dX8_addStep_34 : decode cX8_addStep 34 = .ok (.iload_n 1, 1) := by decide +kernel
theorem dX8_addStep_35 : decode cX8_addStep 35 = .ok (.iload_n 2, 1) := by decide +kernel
theorem dX8_addStep_36 : decode cX8_addStep 36 = .ok (.invokevirtual 186, 3) := by decide +kernel
theorem dX8_addStep_39 : decode cX8_addStep 39 = .ok (.aload_n 0, 1) := by decide +kernel
theorem dX8_addStep_40 : decode cX8_addStep 40 = .ok (.getfield 55, 3) := by decide +kernel
theorem dX8_addStep_43 : decode cX8_addStep 43 = .ok (.getfield 181, 3) := by decide +kernel
theorem dX8_addStep_46 : decode cX8_addStep 46 = .ok (.ireturn, 1) := by decide +kernel
theorem dX8_clearStorm_0 : decode cX8_clearStorm 0 = .ok (.aload_n 0, 1) := by decide +kernel
theorem dX8_clearStorm_1 : decode cX8_clearStorm 1 = .ok (.getfield 55, 3) := by decide +kernel
theorem dX8_clearStorm_4 : decode cX8_clearStorm 4 = .ok (.getfield 181, 3) := by decide +kernel
theorem dX8_clearStorm_7 : decode cX8_clearStorm 7 = .ok (.istore_n 1, 1) := by decide +kernel
theorem dX8_clearStorm_8 : decode cX8_clearStorm 8 = .ok (.aload_n 0, 1) := by decide +kernel
theorem dX8_clearStorm_9 : decode cX8_clearStorm 9 = .ok (.getfield 55, 3) := by decide +kernel
theorem dX8_clearStorm_12 : decode cX8_clearStorm 12 = .ok (.iconst 0, 1) := by decide +kernel
theorem dX8_clearStorm_13 : decode cX8_clearStorm 13 = .ok (.putfield 181, 3) := by decide +kernel
theorem dX8_clearStorm_16 : decode cX8_clearStorm 16 = .ok (.iload_n 1, 1) := by decide +kernel
theorem dX8_clearStorm_17 : decode cX8_clearStorm 17 = .ok (.ireturn, 1) := by decide +kernel
set_option maxRecDepth 20000 in
theorem ggX8_storm_X3_at : GoodIn wsX8_storm wsX3_at := goodIn_r _ [12, 13, 191] (by decide +kernel) (by decide +kernel)
set_option maxRecDepth 20000 in
theorem gX8_storm_X3_at : GoodIn wsX8_storm (wsV RX8 84 RX3 yX3_at wsX3_at) := goodIn_app (goodIn_of _ (by decide +kernel)) ggX8_storm_X3_at
set_option maxRecDepth 20000 in
theorem ggX8_storm_X7_come : GoodIn wsX8_storm wsX7_come := goodIn_r _ [18, 19, 20, 21, 22, 23, 24, 25, 17, 26, 27, 28, 29, 30, 31, 32, 33, 34, 35, 36, 37, 38, 39, 40, 41, 42, 43, 9, 10, 11, 12, 13, 44, 45, 46, 47, 48, 49, 50, 51, 52, 53, 54, 55, 56, 57, 58, 59, 60, 61, 62, 63, 64, 65, 66, 67, 68, 192, 193, 194, 195, 196, 197, 183, 184, 185, 186, 187, 188, 189, 190, 198, 199, 191] (by decide +kernel) (by decide +kernel)
set_option maxRecDepth 20000 in
theorem gX8_storm_X7_come : GoodIn wsX8_storm (wsV RX8 164 RX7 yX7_come wsX7_come) := goodIn_app (goodIn_of _ (by decide +kernel)) ggX8_storm_X7_come
set_option maxRecDepth 20000 in
theorem ggX8_storm_X4_settle : GoodIn wsX8_storm wsX4_settle := goodIn_r _ [72, 73, 59, 74, 75, 76, 77, 78, 79, 80, 81, 82, 83, 84, 85, 11, 86, 13, 87, 9, 10, 12, 88, 89, 90, 91, 92, 93, 94, 95, 96, 97, 98, 99, 100, 101, 102, 103, 104, 105, 106, 107, 108, 109, 110, 111, 112, 113, 114, 115, 116, 117, 118, 119, 120, 121, 122, 29, 123, 124, 125, 126, 127, 128, 129, 130, 131, 132, 133, 134, 135, 136, 137, 138, 139, 140, 141, 142, 143, 144, 34, 145, 36, 37, 38, 39, 40, 41, 42, 43, 146, 62, 63, 64, 147, 148, 149, 150, 151, 152, 153, 154, 155, 156, 157, 158, 159, 160, 161, 162, 163, 57, 164, 165, 166, 167, 168, 61, 169, 170, 171, 172, 183, 184, 185, 186, 187, 188, 189, 190, 200, 201, 202, 203, 204, 191, 205, 206, 207, 208, 198, 199] (by decide +kernel) (by decide +kernel)
set_option maxRecDepth 20000 in
theorem gX8_storm_X4_settle : GoodIn wsX8_storm (wsV RX8 80 RX4 yX4_settle wsX4_settle) := goodIn_app (goodIn_of _ (by decide +kernel)) ggX8_storm_X4_settle
theorem dX8_storm_0 : decode cX8_storm 0 = .ok (.iload_n 1, 1) := by decide +kernel
theorem dX8_storm_1 : decode cX8_storm 1 = .ok (.iconst 1, 1) := by decide +kernel
theorem dX8_storm_2 : decode cX8_storm 2 = .ok (.if_icmp .lt 8, 3) := by decide +kernel
theorem dX8_storm_5 : decode cX8_storm 5 = .ok (.iload_n 1, 1) := by decide +kernel
theorem dX8_storm_6 : decode cX8_storm 6 = .ok (.iconst 5, 1) := by decide +kernel
theorem dX8_storm_7 : decode cX8_storm 7 = .ok (.if_icmp .le 13, 3) := by decide +kernel
theorem dX8_storm_10 : decode cX8_storm 10 = .ok (.new 167, 3) := by decide +kernel
theorem dX8_storm_13 : decode cX8_storm 13 = .ok (.dup, 1) := by decide +kernel
theorem dX8_storm_14 : decode cX8_storm 14 = .ok (.ldc 189, 2) := by decide +kernel
theorem dX8_storm_16 : decode cX8_storm 16 = .ok (.invokespecial 171, 3) := by decide +kernel
theorem dX8_storm_19 : decode cX8_storm 19 = .ok (.athrow, 1) := by decide +kernel
theorem dX8_storm_20 : decode cX8_storm 20 = .ok (.aload_n 0, 1) := by decide +kernel
theorem dX8_storm_21 : decode cX8_storm 21 = .ok (.getfield 55, 3) := by decide +kernel
theorem dX8_storm_24 : decode cX8_storm 24 = .ok (.getfield 181, 3) := by decide +kernel
theorem dX8_storm_27 : decode cX8_storm 27 = .ok (.ifCond .ne 13, 3) := by decide +kernel
theorem dX8_storm_30 : decode cX8_storm 30 = .ok (.new 114, 3) := by decide +kernel
theorem dX8_storm_33 : decode cX8_storm 33 = .ok (.dup, 1) := by decide +kernel
theorem dX8_storm_34 : decode cX8_storm 34 = .ok (.ldc 191, 2) := by decide +kernel
theorem dX8_storm_36 : decode cX8_storm 36 = .ok (.invokespecial 118, 3) := by decide +kernel
theorem dX8_storm_39 : decode cX8_storm 39 = .ok (.athrow, 1) := by decide +kernel
theorem dX8_storm_40 : decode cX8_storm 40 = .ok (.aload_n 0, 1) := by decide +kernel
theorem dX8_storm_41 : decode cX8_storm 41 = .ok (.getfield 39, 3) := by decide +kernel
theorem dX8_storm_44 : decode cX8_storm 44 = .ok (.getfield 193, 3) := by decide +kernel
theorem dX8_storm_47 : decode cX8_storm 47 = .ok (.istore_n 2, 1) := by decide +kernel
theorem dX8_storm_48 : decode cX8_storm 48 = .ok (.iconst 0, 1) := by decide +kernel
theorem dX8_storm_49 : decode cX8_storm 49 = .ok (.istore_n 3, 1) := by decide +kernel
theorem dX8_storm_50 : decode cX8_storm 50 = .ok (.iload_n 3, 1) := by decide +kernel
theorem dX8_storm_51 : decode cX8_storm 51 = .ok (.iload_n 1, 1) := by decide +kernel
theorem dX8_storm_52 : decode cX8_storm 52 = .ok (.if_icmp .ge 70, 3) := by decide +kernel
theorem dX8_storm_55 : decode cX8_storm 55 = .ok (.iconst 0, 1) := by decide +kernel
theorem dX8_storm_56 : decode cX8_storm 56 = .ok (.istore 4, 2) := by decide +kernel
theorem dX8_storm_58 : decode cX8_storm 58 = .ok (.iload 4, 2) := by decide +kernel
theorem dX8_storm_60 : decode cX8_storm 60 = .ok (.aload_n 0, 1) := by decide +kernel
theorem dX8_storm_61 : decode cX8_storm 61 = .ok (.getfield 55, 3) := by decide +kernel
theorem dX8_storm_64 : decode cX8_storm 64 = .ok (.getfield 181, 3) := by decide +kernel
theorem dX8_storm_67 : decode cX8_storm 67 = .ok (.if_icmp .ge 49, 3) := by decide +kernel
theorem dX8_storm_70 : decode cX8_storm 70 = .ok (.aload_n 0, 1) := by decide +kernel
theorem dX8_storm_71 : decode cX8_storm 71 = .ok (.getfield 48, 3) := by decide +kernel
theorem dX8_storm_74 : decode cX8_storm 74 = .ok (.aload_n 0, 1) := by decide +kernel
theorem dX8_storm_75 : decode cX8_storm 75 = .ok (.getfield 55, 3) := by decide +kernel
theorem dX8_storm_78 : decode cX8_storm 78 = .ok (.getfield 196, 3) := by decide +kernel
theorem dX8_storm_81 : decode cX8_storm 81 = .ok (.iload 4, 2) := by decide +kernel
theorem dX8_storm_83 : decode cX8_storm 83 = .ok (.invokevirtual 84, 3) := by decide +kernel
theorem dX8_storm_86 : decode cX8_storm 86 = .ok (.aload_n 0, 1) := by decide +kernel
theorem dX8_storm_87 : decode cX8_storm 87 = .ok (.getfield 55, 3) := by decide +kernel
theorem dX8_storm_90 : decode cX8_storm 90 = .ok (.getfield 199, 3) := by decide +kernel
theorem dX8_storm_93 : decode cX8_storm 93 = .ok (.iload 4, 2) := by decide +kernel
theorem dX8_storm_95 : decode cX8_storm 95 = .ok (.invokevirtual 84, 3) := by decide +kernel
theorem dX8_storm_98 : decode cX8_storm 98 = .ok (.invokevirtual 164, 3) := by decide +kernel
theorem dX8_storm_101 : decode cX8_storm 101 = .ok (.pop, 1) := by decide +kernel
theorem dX8_storm_102 : decode cX8_storm 102 = .ok (.aload_n 0, 1) := by decide +kernel
theorem dX8_storm_103 : decode cX8_storm 103 = .ok (.getfield 39, 3) := by decide +kernel
theorem dX8_storm_106 : decode cX8_storm 106 = .ok (.invokevirtual 80, 3) := by decide +kernel
theorem dX8_storm_109 : decode cX8_storm 109 = .ok (.pop, 1) := by decide +kernel
theorem dX8_storm_110 : decode cX8_storm 110 = .ok (.iinc 4 1, 3) := by decide +kernel
theorem dX8_storm_113 : decode cX8_storm 113 = .ok (.goto (-55), 3) := by decide +kernel
theorem dX8_storm_116 : decode cX8_storm 116 = .ok (.iinc 3 1, 3) := by decide +kernel
theorem dX8_storm_119 : decode cX8_storm 119 = .ok (.goto (-69), 3) := by decide +kernel
theorem dX8_storm_122 : decode cX8_storm 122 = .ok (.aload_n 0, 1) := by decide +kernel
theorem dX8_storm_123 : decode cX8_storm 123 = .ok (.getfield 39, 3) := by decide +kernel
theorem dX8_storm_126 : decode cX8_storm 126 = .ok (.getfield 193, 3) := by decide +kernel
theorem dX8_storm_129 : decode cX8_storm 129 = .ok (.iload_n 2, 1) := by decide +kernel
theorem dX8_storm_130 : decode cX8_storm 130 = .ok (.isub, 1) := by decide +kernel
theorem dX8_storm_131 : decode cX8_storm 131 = .ok (.ireturn, 1) := by decide +kernel
set_option maxRecDepth 20000 in
theorem ggX8_height_X8_cellOf : GoodIn wsX8_height wsX8_cellOf := goodIn_ca (goodIn_r _ [5, 6, 7, 8, 9, 4, 10] (by decide +kernel) (by decide +kernel)) (goodIn_sub (fun _ h => List.mem_cons_of_mem _ (List.mem_append_right _ h)) (by decide +kernel))
set_option maxRecDepth 20000 in
theorem gX8_height_X8_cellOf : GoodIn wsX8_height (va_wsS RX8 69 yX8_cellOf wsX8_cellOf) := goodIn_app (goodIn_of _ (by decide +kernel)) ggX8_height_X8_cellOf
set_option maxRecDepth 20000 in
theorem ggX8_height_X3_at : GoodIn wsX8_height wsX3_at := goodIn_r _ [15, 16, 32] (by decide +kernel) (by decide +kernel)
set_option maxRecDepth 20000 in
theorem gX8_height_X3_at : GoodIn wsX8_height (wsV RX8 84 RX3 yX3_at wsX3_at) := goodIn_app (goodIn_of _ (by decide +kernel)) ggX8_height_X3_at
theorem dX8_height_0 : decode cX8_height 0 = .ok (.aload_n 0, 1) := by decide +kernel
theorem dX8_height_1 : decode cX8_height 1 = .ok (.getfield 39, 3) := by decide +kernel
theorem dX8_height_4 : decode cX8_height 4 = .ok (.getfield 61, 3) := by decide +kernel
theorem dX8_height_7 : decode cX8_height 7 = .ok (.iload_n 1, 1) := by decide +kernel
theorem dX8_height_8 : decode cX8_height 8 = .ok (.iload_n 2, 1) := by decide +kernel
theorem dX8_height_9 : decode cX8_height 9 = .ok (.invokestatic 69, 3) := by decide +kernel
theorem dX8_height_12 : decode cX8_height 12 = .ok (.invokevirtual 84, 3) := by decide +kernel
theorem dX8_height_15 : decode cX8_height 15 = .ok (.ireturn, 1) := by decide +kernel
set_option maxRecDepth 20000 in
theorem ggX8_heightByFlows_X8_cellOf : GoodIn wsX8_heightByFlows wsX8_cellOf := goodIn_ca (goodIn_r _ [5, 6, 7, 8, 9, 4, 10] (by decide +kernel) (by decide +kernel)) (goodIn_sub (fun _ h => List.mem_cons_of_mem _ (List.mem_append_right _ h)) (by decide +kernel))
set_option maxRecDepth 20000 in
theorem gX8_heightByFlows_X8_cellOf : GoodIn wsX8_heightByFlows (va_wsS RX8 69 yX8_cellOf wsX8_cellOf) := goodIn_app (goodIn_of _ (by decide +kernel)) ggX8_heightByFlows_X8_cellOf
set_option maxRecDepth 20000 in
theorem ggX8_heightByFlows_X3_at : GoodIn wsX8_heightByFlows wsX3_at := goodIn_r _ [15, 16, 35] (by decide +kernel) (by decide +kernel)
set_option maxRecDepth 20000 in
theorem gX8_heightByFlows_X3_at : GoodIn wsX8_heightByFlows (wsV RX8 84 RX3 yX3_at wsX3_at) := goodIn_app (goodIn_of _ (by decide +kernel)) ggX8_heightByFlows_X3_at
set_option maxRecDepth 20000 in
theorem ggX8_heightByFlows_X8_placeOf : GoodIn wsX8_heightByFlows wsX8_placeOf := goodIn_r _ [19] (by decide +kernel) (by decide +kernel)
set_option maxRecDepth 20000 in
theorem gX8_heightByFlows_X8_placeOf : GoodIn wsX8_heightByFlows (va_wsS RX8 208 yX8_placeOf wsX8_placeOf) := goodIn_app (goodIn_of _ (by decide +kernel)) ggX8_heightByFlows_X8_placeOf
theorem dX8_heightByFlows_0 : decode cX8_heightByFlows 0 = .ok (.iload_n 1, 1) := by decide +kernel
theorem dX8_heightByFlows_1 : decode cX8_heightByFlows 1 = .ok (.iload_n 2, 1) := by decide +kernel
theorem dX8_heightByFlows_2 : decode cX8_heightByFlows 2 = .ok (.invokestatic 69, 3) := by decide +kernel
theorem dX8_heightByFlows_5 : decode cX8_heightByFlows 5 = .ok (.istore_n 3, 1) := by decide +kernel
theorem dX8_heightByFlows_6 : decode cX8_heightByFlows 6 = .ok (.aload_n 0, 1) := by decide +kernel
theorem dX8_heightByFlows_7 : decode cX8_heightByFlows 7 = .ok (.getfield 39, 3) := by decide +kernel
theorem dX8_heightByFlows_10 : decode cX8_heightByFlows 10 = .ok (.getfield 202, 3) := by decide +kernel
theorem dX8_heightByFlows_13 : decode cX8_heightByFlows 13 = .ok (.iload_n 3, 1) := by decide +kernel
theorem dX8_heightByFlows_14 : decode cX8_heightByFlows 14 = .ok (.invokevirtual 84, 3) := by decide +kernel
theorem dX8_heightByFlows_17 : decode cX8_heightByFlows 17 = .ok (.istore 4, 2) := by decide +kernel
theorem dX8_heightByFlows_19 : decode cX8_heightByFlows 19 = .ok (.iconst 0, 1) := by decide +kernel
theorem dX8_heightByFlows_20 : decode cX8_heightByFlows 20 = .ok (.istore 5, 2) := by decide +kernel
theorem dX8_heightByFlows_22 : decode cX8_heightByFlows 22 = .ok (.iload 5, 2) := by decide +kernel
theorem dX8_heightByFlows_24 : decode cX8_heightByFlows 24 = .ok (.iconst 4, 1) := by decide +kernel
theorem dX8_heightByFlows_25 : decode cX8_heightByFlows 25 = .ok (.if_icmp .ge 30, 3) := by decide +kernel
theorem dX8_heightByFlows_28 : decode cX8_heightByFlows 28 = .ok (.iload 4, 2) := by decide +kernel
theorem dX8_heightByFlows_30 : decode cX8_heightByFlows 30 = .ok (.aload_n 0, 1) := by decide +kernel
theorem dX8_heightByFlows_31 : decode cX8_heightByFlows 31 = .ok (.getfield 39, 3) := by decide +kernel
theorem dX8_heightByFlows_34 : decode cX8_heightByFlows 34 = .ok (.getfield 205, 3) := by decide +kernel
theorem dX8_heightByFlows_37 : decode cX8_heightByFlows 37 = .ok (.iload_n 3, 1) := by decide +kernel
theorem dX8_heightByFlows_38 : decode cX8_heightByFlows 38 = .ok (.iload 5, 2) := by decide +kernel
theorem dX8_heightByFlows_40 : decode cX8_heightByFlows 40 = .ok (.invokestatic 208, 3) := by decide +kernel
theorem dX8_heightByFlows_43 : decode cX8_heightByFlows 43 = .ok (.invokevirtual 84, 3) := by decide +kernel
theorem dX8_heightByFlows_46 : decode cX8_heightByFlows 46 = .ok (.isub, 1) := by decide +kernel
theorem dX8_heightByFlows_47 : decode cX8_heightByFlows 47 = .ok (.istore 4, 2) := by decide +kernel
theorem dX8_heightByFlows_49 : decode cX8_heightByFlows 49 = .ok (.iinc 5 1, 3) := by decide +kernel
theorem dX8_heightByFlows_52 : decode cX8_heightByFlows 52 = .ok (.goto (-30), 3) := by decide +kernel
theorem dX8_heightByFlows_55 : decode cX8_heightByFlows 55 = .ok (.iload 4, 2) := by decide +kernel
theorem dX8_heightByFlows_57 : decode cX8_heightByFlows 57 = .ok (.ireturn, 1) := by decide +kernel
set_option maxRecDepth 20000 in
theorem ggX8_flow_X8_cellOf : GoodIn wsX8_flow wsX8_cellOf := goodIn_ca (goodIn_r _ [5, 6, 7, 8, 9, 4, 10] (by decide +kernel) (by decide +kernel)) (goodIn_sub (fun _ h => List.mem_cons_of_mem _ (List.mem_append_left _ (List.mem_append_right _ h))) (by decide +kernel))
set_option maxRecDepth 20000 in
theorem gX8_flow_X8_cellOf : GoodIn wsX8_flow (va_wsS RX8 69 yX8_cellOf wsX8_cellOf) := goodIn_app (goodIn_of _ (by decide +kernel)) ggX8_flow_X8_cellOf
set_option maxRecDepth 20000 in
theorem ggX8_flow_X8_sideOf : GoodIn wsX8_flow wsX8_sideOf := goodIn_ca (goodIn_r _ [13, 14, 15] (by decide +kernel) (by decide +kernel)) (goodIn_sub (fun _ h => List.mem_cons_of_mem _ (List.mem_append_right _ h)) (by decide +kernel))
set_option maxRecDepth 20000 in
theorem gX8_flow_X8_sideOf : GoodIn wsX8_flow (va_wsS RX8 124 yX8_sideOf wsX8_sideOf) := goodIn_app (goodIn_of _ (by decide +kernel)) ggX8_flow_X8_sideOf
set_option maxRecDepth 20000 in
theorem ggX8_flow_X8_placeOf : GoodIn wsX8_flow wsX8_placeOf := goodIn_r _ [18] (by decide +kernel) (by decide +kernel)
set_option maxRecDepth 20000 in
theorem gX8_flow_X8_placeOf : GoodIn wsX8_flow (va_wsS RX8 208 yX8_placeOf wsX8_placeOf) := goodIn_app (goodIn_of _ (by decide +kernel)) ggX8_flow_X8_placeOf
set_option maxRecDepth 20000 in
theorem ggX8_flow_X3_at : GoodIn wsX8_flow wsX3_at := goodIn_r _ [23, 24, 40] (by decide +kernel) (by decide +kernel)
set_option maxRecDepth 20000 in
theorem gX8_flow_X3_at : GoodIn wsX8_flow (wsV RX8 84 RX3 yX3_at wsX3_at) := goodIn_app (goodIn_of _ (by decide +kernel)) ggX8_flow_X3_at
theorem dX8_flow_0 : decode cX8_flow 0 = .ok (.iload_n 1, 1) := by decide +kernel
theorem dX8_flow_1 : decode cX8_flow 1 = .ok (.iload_n 2, 1) := by decide +kernel
theorem dX8_flow_2 : decode cX8_flow 2 = .ok (.invokestatic 69, 3) := by decide +kernel
theorem dX8_flow_5 : decode cX8_flow 5 = .ok (.istore 4, 2) := by decide +kernel
theorem dX8_flow_7 : decode cX8_flow 7 = .ok (.aload_n 0, 1) := by decide +kernel
theorem dX8_flow_8 : decode cX8_flow 8 = .ok (.getfield 39, 3) := by decide +kernel
theorem dX8_flow_11 : decode cX8_flow 11 = .ok (.getfield 205, 3) := by decide +kernel
theorem dX8_flow_14 : decode cX8_flow 14 = .ok (.iload 4, 2) := by decide +kernel
theorem dX8_flow_16 : decode cX8_flow 16 = .ok (.iload_n 3, 1) := by decide +kernel
theorem dX8_flow_17 : decode cX8_flow 17 = .ok (.invokestatic 124, 3) := by decide +kernel
theorem dX8_flow_20 : decode cX8_flow 20 = .ok (.invokestatic 208, 3) := by decide +kernel
theorem dX8_flow_23 : decode cX8_flow 23 = .ok (.invokevirtual 84, 3) := by decide +kernel
theorem dX8_flow_26 : decode cX8_flow 26 = .ok (.ireturn, 1) := by decide +kernel
set_option maxRecDepth 20000 in
theorem ggX8_topplings_X8_cellOf : GoodIn wsX8_topplings wsX8_cellOf := goodIn_ca (goodIn_r _ [5, 6, 7, 8, 9, 4, 10] (by decide +kernel) (by decide +kernel)) (goodIn_sub (fun _ h => List.mem_cons_of_mem _ (List.mem_append_right _ h)) (by decide +kernel))
set_option maxRecDepth 20000 in
theorem gX8_topplings_X8_cellOf : GoodIn wsX8_topplings (va_wsS RX8 69 yX8_cellOf wsX8_cellOf) := goodIn_app (goodIn_of _ (by decide +kernel)) ggX8_topplings_X8_cellOf
set_option maxRecDepth 20000 in
theorem ggX8_topplings_X3_at : GoodIn wsX8_topplings wsX3_at := goodIn_r _ [15, 16, 32] (by decide +kernel) (by decide +kernel)
set_option maxRecDepth 20000 in
theorem gX8_topplings_X3_at : GoodIn wsX8_topplings (wsV RX8 84 RX3 yX3_at wsX3_at) := goodIn_app (goodIn_of _ (by decide +kernel)) ggX8_topplings_X3_at
theorem dX8_topplings_0 : decode cX8_topplings 0 = .ok (.aload_n 0, 1) := by decide +kernel
theorem dX8_topplings_1 : decode cX8_topplings 1 = .ok (.getfield 39, 3) := by decide +kernel
theorem dX8_topplings_4 : decode cX8_topplings 4 = .ok (.getfield 211, 3) := by decide +kernel
theorem dX8_topplings_7 : decode cX8_topplings 7 = .ok (.iload_n 1, 1) := by decide +kernel
theorem dX8_topplings_8 : decode cX8_topplings 8 = .ok (.iload_n 2, 1) := by decide +kernel
theorem dX8_topplings_9 : decode cX8_topplings 9 = .ok (.invokestatic 69, 3) := by decide +kernel
theorem dX8_topplings_12 : decode cX8_topplings 12 = .ok (.invokevirtual 84, 3) := by decide +kernel
theorem dX8_topplings_15 : decode cX8_topplings 15 = .ok (.ireturn, 1) := by decide +kernel
set_option maxRecDepth 20000 in
theorem ggX8_highest_X8_needColumn : GoodIn wsX8_highest wsX8_needColumn := goodIn_ca (goodIn_r _ [5, 6, 7] (by decide +kernel) (by decide +kernel)) (goodIn_sub (fun _ h => List.mem_cons_of_mem _ (List.mem_append_right _ h)) (by decide +kernel))
set_option maxRecDepth 20000 in
theorem gX8_highest_X8_needColumn : GoodIn wsX8_highest (va_wsS RX8 158 yX8_needColumn wsX8_needColumn) := goodIn_app (goodIn_of _ (by decide +kernel)) ggX8_highest_X8_needColumn
set_option maxRecDepth 20000 in
theorem ggX8_highest_X8_numberOf : GoodIn wsX8_highest wsX8_numberOf := goodIn_r _ [10] (by decide +kernel) (by decide +kernel)
set_option maxRecDepth 20000 in
theorem gX8_highest_X8_numberOf : GoodIn wsX8_highest (va_wsS RX8 214 yX8_numberOf wsX8_numberOf) := goodIn_app (goodIn_of _ (by decide +kernel)) ggX8_highest_X8_numberOf
set_option maxRecDepth 20000 in
theorem ggX8_highest_X3_at : GoodIn wsX8_highest wsX3_at := goodIn_r _ [15, 16, 32] (by decide +kernel) (by decide +kernel)
set_option maxRecDepth 20000 in
theorem gX8_highest_X3_at : GoodIn wsX8_highest (wsV RX8 84 RX3 yX3_at wsX3_at) := goodIn_app (goodIn_of _ (by decide +kernel)) ggX8_highest_X3_at
theorem dX8_highest_0 : decode cX8_highest 0 = .ok (.iload_n 1, 1) := by decide +kernel
theorem dX8_highest_1 : decode cX8_highest 1 = .ok (.invokestatic 158, 3) := by decide +kernel
theorem dX8_highest_4 : decode cX8_highest 4 = .ok (.iconst 0, 1) := by decide +kernel
theorem dX8_highest_5 : decode cX8_highest 5 = .ok (.istore_n 2, 1) := by decide +kernel
theorem dX8_highest_6 : decode cX8_highest 6 = .ok (.iconst 1, 1) := by decide +kernel
theorem dX8_highest_7 : decode cX8_highest 7 = .ok (.istore_n 3, 1) := by decide +kernel
theorem dX8_highest_8 : decode cX8_highest 8 = .ok (.iload_n 3, 1) := by decide +kernel
theorem dX8_highest_9 : decode cX8_highest 9 = .ok (.bipush 7, 2) := by decide +kernel
theorem dX8_highest_11 : decode cX8_highest 11 = .ok (.if_icmp .ge 44, 3) := by decide +kernel
theorem dX8_highest_14 : decode cX8_highest 14 = .ok (.aload_n 0, 1) := by decide +kernel
theorem dX8_highest_15 : decode cX8_highest 15 = .ok (.getfield 39, 3) := by decide +kernel
theorem dX8_highest_18 : decode cX8_highest 18 = .ok (.getfield 61, 3) := by decide +kernel
theorem dX8_highest_21 : decode cX8_highest 21 = .ok (.iload_n 1, 1) := by decide +kernel
theorem dX8_highest_22 : decode cX8_highest 22 = .ok (.iload_n 3, 1) := by decide +kernel
theorem dX8_highest_23 : decode cX8_highest 23 = .ok (.invokestatic 214, 3) := by decide +kernel
theorem dX8_highest_26 : decode cX8_highest 26 = .ok (.invokevirtual 84, 3) := by decide +kernel
theorem dX8_highest_29 : decode cX8_highest 29 = .ok (.aload_n 0, 1) := by decide +kernel
theorem dX8_highest_30 : decode cX8_highest 30 = .ok (.getfield 39, 3) := by decide +kernel
theorem dX8_highest_33 : decode cX8_highest 33 = .ok (.getfield 61, 3) := by decide +kernel
theorem dX8_highest_36 : decode cX8_highest 36 = .ok (.iload_n 1, 1) := by decide +kernel
theorem dX8_highest_37 : decode cX8_highest 37 = .ok (.iload_n 2, 1) := by decide +kernel
theorem dX8_highest_38 : decode cX8_highest 38 = .ok (.invokestatic 214, 3) := by decide +kernel
theorem dX8_highest_41 : decode cX8_highest 41 = .ok (.invokevirtual 84, 3) := by decide +kernel
theorem dX8_highest_44 : decode cX8_highest 44 = .ok (.if_icmp .le 5, 3) := by decide +kernel
theorem dX8_highest_47 : decode cX8_highest 47 = .ok (.iload_n 3, 1) := by decide +kernel
theorem dX8_highest_48 : decode cX8_highest 48 = .ok (.istore_n 2, 1) := by decide +kernel
theorem dX8_highest_49 : decode cX8_highest 49 = .ok (.iinc 3 1, 3) := by decide +kernel
theorem dX8_highest_52 : decode cX8_highest 52 = .ok (.goto (-44), 3) := by decide +kernel
theorem dX8_highest_55 : decode cX8_highest 55 = .ok (.iload_n 2, 1) := by decide +kernel
theorem dX8_highest_56 : decode cX8_highest 56 = .ok (.ireturn, 1) := by decide +kernel
set_option maxRecDepth 20000 in
theorem ggX8_roughness_X8_needColumn : GoodIn wsX8_roughness wsX8_needColumn := goodIn_ca (goodIn_r _ [9, 10, 11] (by decide +kernel) (by decide +kernel)) (goodIn_sub (fun _ h => List.mem_cons_of_mem _ (List.mem_append_right _ h)) (by decide +kernel))
set_option maxRecDepth 20000 in
theorem gX8_roughness_X8_needColumn : GoodIn wsX8_roughness (va_wsS RX8 158 yX8_needColumn wsX8_needColumn) := goodIn_app (goodIn_of _ (by decide +kernel)) ggX8_roughness_X8_needColumn
set_option maxRecDepth 20000 in
theorem ggX8_roughness_X8_numberOf : GoodIn wsX8_roughness wsX8_numberOf := goodIn_r _ [14] (by decide +kernel) (by decide +kernel)
set_option maxRecDepth 20000 in
theorem gX8_roughness_X8_numberOf : GoodIn wsX8_roughness (va_wsS RX8 214 yX8_numberOf wsX8_numberOf) := goodIn_app (goodIn_of _ (by decide +kernel)) ggX8_roughness_X8_numberOf
set_option maxRecDepth 20000 in
theorem ggX8_roughness_X3_at : GoodIn wsX8_roughness wsX3_at := goodIn_r _ [19, 20, 36] (by decide +kernel) (by decide +kernel)
set_option maxRecDepth 20000 in
theorem gX8_roughness_X3_at : GoodIn wsX8_roughness (wsV RX8 84 RX3 yX3_at wsX3_at) := goodIn_app (goodIn_of _ (by decide +kernel)) ggX8_roughness_X3_at
theorem dX8_roughness_0 : decode cX8_roughness 0 = .ok (.iload_n 1, 1) := by decide +kernel
theorem dX8_roughness_1 : decode cX8_roughness 1 = .ok (.invokestatic 158, 3) := by decide +kernel
theorem dX8_roughness_4 : decode cX8_roughness 4 = .ok (.iconst 0, 1) := by decide +kernel
theorem dX8_roughness_5 : decode cX8_roughness 5 = .ok (.istore_n 2, 1) := by decide +kernel
theorem dX8_roughness_6 : decode cX8_roughness 6 = .ok (.iconst 1, 1) := by decide +kernel
theorem dX8_roughness_7 : decode cX8_roughness 7 = .ok (.istore_n 3, 1) := by decide +kernel
theorem dX8_roughness_8 : decode cX8_roughness 8 = .ok (.iload_n 3, 1) := by decide +kernel
theorem dX8_roughness_9 : decode cX8_roughness 9 = .ok (.bipush 7, 2) := by decide +kernel
theorem dX8_roughness_11 : decode cX8_roughness 11 = .ok (.if_icmp .ge 52, 3) := by decide +kernel
theorem dX8_roughness_14 : decode cX8_roughness 14 = .ok (.aload_n 0, 1) := by decide +kernel
theorem dX8_roughness_15 : decode cX8_roughness 15 = .ok (.getfield 39, 3) := by decide +kernel
theorem dX8_roughness_18 : decode cX8_roughness 18 = .ok (.getfield 61, 3) := by decide +kernel
theorem dX8_roughness_21 : decode cX8_roughness 21 = .ok (.iload_n 1, 1) := by decide +kernel
theorem dX8_roughness_22 : decode cX8_roughness 22 = .ok (.iload_n 3, 1) := by decide +kernel
theorem dX8_roughness_23 : decode cX8_roughness 23 = .ok (.invokestatic 214, 3) := by decide +kernel
theorem dX8_roughness_26 : decode cX8_roughness 26 = .ok (.invokevirtual 84, 3) := by decide +kernel
theorem dX8_roughness_29 : decode cX8_roughness 29 = .ok (.aload_n 0, 1) := by decide +kernel
theorem dX8_roughness_30 : decode cX8_roughness 30 = .ok (.getfield 39, 3) := by decide +kernel
theorem dX8_roughness_33 : decode cX8_roughness 33 = .ok (.getfield 61, 3) := by decide +kernel
theorem dX8_roughness_36 : decode cX8_roughness 36 = .ok (.iload_n 1, 1) := by decide +kernel
theorem dX8_roughness_37 : decode cX8_roughness 37 = .ok (.iload_n 3, 1) := by decide +kernel
theorem dX8_roughness_38 : decode cX8_roughness 38 = .ok (.iconst 1, 1) := by decide +kernel
theorem dX8_roughness_39 : decode cX8_roughness 39 = .ok (.isub, 1) := by decide +kernel
theorem dX8_roughness_40 : decode cX8_roughness 40 = .ok (.invokestatic 214, 3) := by decide +kernel
theorem dX8_roughness_43 : decode cX8_roughness 43 = .ok (.invokevirtual 84, 3) := by decide +kernel
theorem dX8_roughness_46 : decode cX8_roughness 46 = .ok (.isub, 1) := by decide +kernel
theorem dX8_roughness_47 : decode cX8_roughness 47 = .ok (.istore 4, 2) := by decide +kernel
theorem dX8_roughness_49 : decode cX8_roughness 49 = .ok (.iload_n 2, 1) := by decide +kernel
theorem dX8_roughness_50 : decode cX8_roughness 50 = .ok (.iload 4, 2) := by decide +kernel
theorem dX8_roughness_52 : decode cX8_roughness 52 = .ok (.invokestatic 217, 3) := by decide +kernel
theorem dX8_roughness_55 : decode cX8_roughness 55 = .ok (.iadd, 1) := by decide +kernel
theorem dX8_roughness_56 : decode cX8_roughness 56 = .ok (.istore_n 2, 1) := by decide +kernel
theorem dX8_roughness_57 : decode cX8_roughness 57 = .ok (.iinc 3 1, 3) := by decide +kernel
theorem dX8_roughness_60 : decode cX8_roughness 60 = .ok (.goto (-52), 3) := by decide +kernel
theorem dX8_roughness_63 : decode cX8_roughness 63 = .ok (.iload_n 2, 1) := by decide +kernel
theorem dX8_roughness_64 : decode cX8_roughness 64 = .ok (.ireturn, 1) := by decide +kernel
set_option maxRecDepth 20000 in
theorem ggX8_flooded_X8_needLevel : GoodIn wsX8_flooded wsX8_needLevel := goodIn_ca (goodIn_r _ [5, 6, 7] (by decide +kernel) (by decide +kernel)) (goodIn_sub (fun _ h => List.mem_cons_of_mem _ (List.mem_append_right _ h)) (by decide +kernel))
set_option maxRecDepth 20000 in
theorem gX8_flooded_X8_needLevel : GoodIn wsX8_flooded (va_wsS RX8 222 yX8_needLevel wsX8_needLevel) := goodIn_app (goodIn_of _ (by decide +kernel)) ggX8_flooded_X8_needLevel
set_option maxRecDepth 20000 in
theorem ggX8_flooded_X1_spread : GoodIn wsX8_flooded wsX1_spread := goodIn_r _ [12, 13, 14, 15, 16, 17, 18, 19, 20, 21, 22, 23, 24, 25, 26, 27, 28, 29, 30, 31, 32, 33, 34, 35, 36, 37, 4, 38, 39, 40, 41, 42, 43, 44, 45, 11, 46, 47, 48, 49, 50, 51, 52, 53, 54, 55, 56, 57, 58, 59, 60, 61, 62, 63, 64, 65, 66, 67, 68, 69, 70, 71, 72, 73, 81, 82, 83, 84, 85, 86, 87, 88, 89, 90, 91] (by decide +kernel) (by decide +kernel)
set_option maxRecDepth 20000 in
theorem gX8_flooded_X1_spread : GoodIn wsX8_flooded (wsV RX8 138 RX1 yX1_spread wsX1_spread) := goodIn_app (goodIn_of _ (by decide +kernel)) ggX8_flooded_X1_spread
theorem dX8_flooded_0 : decode cX8_flooded 0 = .ok (.iload_n 1, 1) := by decide +kernel
theorem dX8_flooded_1 : decode cX8_flooded 1 = .ok (.invokestatic 222, 3) := by decide +kernel
theorem dX8_flooded_4 : decode cX8_flooded 4 = .ok (.aload_n 0, 1) := by decide +kernel
theorem dX8_flooded_5 : decode cX8_flooded 5 = .ok (.getfield 65, 3) := by decide +kernel
theorem dX8_flooded_8 : decode cX8_flooded 8 = .ok (.iload_n 1, 1) := by decide +kernel
theorem dX8_flooded_9 : decode cX8_flooded 9 = .ok (.invokevirtual 138, 3) := by decide +kernel
theorem dX8_flooded_12 : decode cX8_flooded 12 = .ok (.ireturn, 1) := by decide +kernel
set_option maxRecDepth 20000 in
theorem ggX8_floodedByRounds_X8_needLevel : GoodIn wsX8_floodedByRounds wsX8_needLevel := goodIn_ca (goodIn_r _ [5, 6, 7] (by decide +kernel) (by decide +kernel)) (goodIn_sub (fun _ h => List.mem_cons_of_mem _ (List.mem_append_right _ h)) (by decide +kernel))
set_option maxRecDepth 20000 in
theorem gX8_floodedByRounds_X8_needLevel : GoodIn wsX8_floodedByRounds (va_wsS RX8 222 yX8_needLevel wsX8_needLevel) := goodIn_app (goodIn_of _ (by decide +kernel)) ggX8_floodedByRounds_X8_needLevel
set_option maxRecDepth 20000 in
theorem ggX8_floodedByRounds_X1_spreadByRounds : GoodIn wsX8_floodedByRounds wsX1_spreadByRounds := goodIn_r _ [12, 13, 14, 15, 16, 17, 18, 19, 20, 21, 22, 11, 23, 24, 25, 26, 27, 28, 29, 30, 31, 32, 33, 34, 35, 36, 37, 38, 39, 40, 4, 41, 42, 43, 44, 45, 46, 47, 48, 49, 50, 58, 59, 60, 61, 62, 63, 64] (by decide +kernel) (by decide +kernel)
set_option maxRecDepth 20000 in
theorem gX8_floodedByRounds_X1_spreadByRounds : GoodIn wsX8_floodedByRounds (wsV RX8 225 RX1 yX1_spreadByRounds wsX1_spreadByRounds) := goodIn_app (goodIn_of _ (by decide +kernel)) ggX8_floodedByRounds_X1_spreadByRounds
theorem dX8_floodedByRounds_0 : decode cX8_floodedByRounds 0 = .ok (.iload_n 1, 1) := by decide +kernel
theorem dX8_floodedByRounds_1 : decode cX8_floodedByRounds 1 = .ok (.invokestatic 222, 3) := by decide +kernel
theorem dX8_floodedByRounds_4 : decode cX8_floodedByRounds 4 = .ok (.aload_n 0, 1) := by decide +kernel
theorem dX8_floodedByRounds_5 : decode cX8_floodedByRounds 5 = .ok (.getfield 65, 3) := by decide +kernel
theorem dX8_floodedByRounds_8 : decode cX8_floodedByRounds 8 = .ok (.iload_n 1, 1) := by decide +kernel
theorem dX8_floodedByRounds_9 : decode cX8_floodedByRounds 9 = .ok (.invokevirtual 225, 3) := by decide +kernel
theorem dX8_floodedByRounds_12 : decode cX8_floodedByRounds 12 = .ok (.ireturn, 1) := by decide +kernel
set_option maxRecDepth 20000 in
theorem ggX8_isFlooded_X8_cellOf : GoodIn wsX8_isFlooded wsX8_cellOf := goodIn_ca (goodIn_r _ [5, 6, 7, 8, 9, 4, 10] (by decide +kernel) (by decide +kernel)) (goodIn_sub (fun _ h => List.mem_cons_of_mem _ (List.mem_append_left _ (List.mem_append_right _ h))) (by decide +kernel))
set_option maxRecDepth 20000 in
theorem gX8_isFlooded_X8_cellOf : GoodIn wsX8_isFlooded (va_wsS RX8 69 yX8_cellOf wsX8_cellOf) := goodIn_app (goodIn_of _ (by decide +kernel)) ggX8_isFlooded_X8_cellOf
set_option maxRecDepth 20000 in
theorem ggX8_isFlooded_X8_needLevel : GoodIn wsX8_isFlooded wsX8_needLevel := goodIn_ca (goodIn_r _ [13, 14, 15] (by decide +kernel) (by decide +kernel)) (goodIn_sub (fun _ h => List.mem_cons_of_mem _ (List.mem_append_right _ h)) (by decide +kernel))
set_option maxRecDepth 20000 in
theorem gX8_isFlooded_X8_needLevel : GoodIn wsX8_isFlooded (va_wsS RX8 222 yX8_needLevel wsX8_needLevel) := goodIn_app (goodIn_of _ (by decide +kernel)) ggX8_isFlooded_X8_needLevel
set_option maxRecDepth 20000 in
theorem ggX8_isFlooded_X1_spread : GoodIn wsX8_isFlooded wsX1_spread := goodIn_r _ [20, 21, 22, 23, 24, 25, 26, 27, 28, 29, 30, 31, 32, 33, 34, 35, 36, 37, 38, 39, 40, 41, 42, 43, 44, 45, 4, 46, 47, 48, 49, 50, 51, 52, 53, 19, 54, 55, 56, 57, 58, 59, 60, 61, 62, 63, 64, 65, 66, 67, 68, 69, 70, 71, 72, 73, 74, 75, 76, 77, 78, 79, 80, 81, 90, 91, 92, 93, 94, 95, 96, 97, 98, 99, 100] (by decide +kernel) (by decide +kernel)
set_option maxRecDepth 20000 in
theorem gX8_isFlooded_X1_spread : GoodIn wsX8_isFlooded (wsV RX8 138 RX1 yX1_spread wsX1_spread) := goodIn_app (goodIn_of _ (by decide +kernel)) ggX8_isFlooded_X1_spread
set_option maxRecDepth 20000 in
theorem ggX8_isFlooded_X3_at : GoodIn wsX8_isFlooded wsX3_at := goodIn_r _ [50, 29, 94] (by decide +kernel) (by decide +kernel)
set_option maxRecDepth 20000 in
theorem gX8_isFlooded_X3_at : GoodIn wsX8_isFlooded (wsV RX8 84 RX3 yX3_at wsX3_at) := goodIn_app (goodIn_of _ (by decide +kernel)) ggX8_isFlooded_X3_at
theorem dX8_isFlooded_0 : decode cX8_isFlooded 0 = .ok (.iload_n 1, 1) := by decide +kernel
theorem dX8_isFlooded_1 : decode cX8_isFlooded 1 = .ok (.iload_n 2, 1) := by decide +kernel
theorem dX8_isFlooded_2 : decode cX8_isFlooded 2 = .ok (.invokestatic 69, 3) := by decide +kernel
theorem dX8_isFlooded_5 : decode cX8_isFlooded 5 = .ok (.istore 4, 2) := by decide +kernel
theorem dX8_isFlooded_7 : decode cX8_isFlooded 7 = .ok (.iload_n 3, 1) := by decide +kernel
theorem dX8_isFlooded_8 : decode cX8_isFlooded 8 = .ok (.invokestatic 222, 3) := by decide +kernel
theorem dX8_isFlooded_11 : decode cX8_isFlooded 11 = .ok (.aload_n 0, 1) := by decide +kernel
theorem dX8_isFlooded_12 : decode cX8_isFlooded 12 = .ok (.getfield 65, 3) := by decide +kernel
theorem dX8_isFlooded_15 : decode cX8_isFlooded 15 = .ok (.iload_n 3, 1) := by decide +kernel
theorem dX8_isFlooded_16 : decode cX8_isFlooded 16 = .ok (.invokevirtual 138, 3) := by decide +kernel
theorem dX8_isFlooded_19 : decode cX8_isFlooded 19 = .ok (.pop, 1) := by decide +kernel
theorem dX8_isFlooded_20 : decode cX8_isFlooded 20 = .ok (.aload_n 0, 1) := by decide +kernel
theorem dX8_isFlooded_21 : decode cX8_isFlooded 21 = .ok (.getfield 65, 3) := by decide +kernel
theorem dX8_isFlooded_24 : decode cX8_isFlooded 24 = .ok (.getfield 228, 3) := by decide +kernel
theorem dX8_isFlooded_27 : decode cX8_isFlooded 27 = .ok (.iload 4, 2) := by decide +kernel
theorem dX8_isFlooded_29 : decode cX8_isFlooded 29 = .ok (.invokevirtual 84, 3) := by decide +kernel
theorem dX8_isFlooded_32 : decode cX8_isFlooded 32 = .ok (.ifCond .eq 7, 3) := by decide +kernel
theorem dX8_isFlooded_35 : decode cX8_isFlooded 35 = .ok (.iconst 1, 1) := by decide +kernel
theorem dX8_isFlooded_36 : decode cX8_isFlooded 36 = .ok (.goto 4, 3) := by decide +kernel
theorem dX8_isFlooded_39 : decode cX8_isFlooded 39 = .ok (.iconst 0, 1) := by decide +kernel
theorem dX8_isFlooded_40 : decode cX8_isFlooded 40 = .ok (.ireturn, 1) := by decide +kernel
set_option maxRecDepth 20000 in
theorem ggX8_sand_X3_total : GoodIn wsX8_sand wsX3_total := goodIn_r _ [6, 7, 23] (by decide +kernel) (by decide +kernel)
set_option maxRecDepth 20000 in
theorem gX8_sand_X3_total : GoodIn wsX8_sand (wsV RX8 105 RX3 yX3_total wsX3_total) := goodIn_app (goodIn_of _ (by decide +kernel)) ggX8_sand_X3_total
theorem dX8_sand_0 : decode cX8_sand 0 = .ok (.aload_n 0, 1) := by decide +kernel
theorem dX8_sand_1 : decode cX8_sand 1 = .ok (.getfield 39, 3) := by decide +kernel
theorem dX8_sand_4 : decode cX8_sand 4 = .ok (.getfield 61, 3) := by decide +kernel
theorem dX8_sand_7 : decode cX8_sand 7 = .ok (.invokevirtual 105, 3) := by decide +kernel
theorem dX8_sand_10 : decode cX8_sand 10 = .ok (.ireturn, 1) := by decide +kernel
theorem dX8_sea_0 : decode cX8_sea 0 = .ok (.aload_n 0, 1) := by decide +kernel
theorem dX8_sea_1 : decode cX8_sea 1 = .ok (.getfield 39, 3) := by decide +kernel
theorem dX8_sea_4 : decode cX8_sea 4 = .ok (.getfield 193, 3) := by decide +kernel
theorem dX8_sea_7 : decode cX8_sea 7 = .ok (.ireturn, 1) := by decide +kernel
theorem dX8_brought_0 : decode cX8_brought 0 = .ok (.aload_n 0, 1) := by decide +kernel
theorem dX8_brought_1 : decode cX8_brought 1 = .ok (.getfield 39, 3) := by decide +kernel
theorem dX8_brought_4 : decode cX8_brought 4 = .ok (.getfield 231, 3) := by decide +kernel
theorem dX8_brought_7 : decode cX8_brought 7 = .ok (.ireturn, 1) := by decide +kernel
set_option maxRecDepth 20000 in
theorem ggX8_meanHeight_X3_total : GoodIn wsX8_meanHeight wsX3_total := goodIn_r _ [7, 8, 24] (by decide +kernel) (by decide +kernel)
set_option maxRecDepth 20000 in
theorem gX8_meanHeight_X3_total : GoodIn wsX8_meanHeight (wsV RX8 105 RX3 yX3_total wsX3_total) := goodIn_app (goodIn_of _ (by decide +kernel)) ggX8_meanHeight_X3_total
theorem dX8_meanHeight_0 : decode cX8_meanHeight 0 = .ok (.aload_n 0, 1) := by decide +kernel
theorem dX8_meanHeight_1 : decode cX8_meanHeight 1 = .ok (.getfield 39, 3) := by decide +kernel
theorem dX8_meanHeight_4 : decode cX8_meanHeight 4 = .ok (.getfield 61, 3) := by decide +kernel
theorem dX8_meanHeight_7 : decode cX8_meanHeight 7 = .ok (.invokevirtual 105, 3) := by decide +kernel
theorem dX8_meanHeight_10 : decode cX8_meanHeight 10 = .ok (.i2f, 1) := by decide +kernel
theorem dX8_meanHeight_11 : decode cX8_meanHeight 11 = .ok (.ldc 234, 2) := by decide +kernel
theorem dX8_meanHeight_13 : decode cX8_meanHeight 13 = .ok (.fdiv, 1) := by decide +kernel
theorem dX8_meanHeight_14 : decode cX8_meanHeight 14 = .ok (.freturn, 1) := by decide +kernel
set_option maxRecDepth 20000 in
theorem ggX8_cellOf_X8_numberOf : GoodIn wsX8_cellOf wsX8_numberOf := goodIn_r _ [6] (by decide +kernel) (by decide +kernel)
set_option maxRecDepth 20000 in
theorem gX8_cellOf_X8_numberOf : GoodIn wsX8_cellOf (va_wsS RX8 214 yX8_numberOf wsX8_numberOf) := goodIn_app (goodIn_of _ (by decide +kernel)) ggX8_cellOf_X8_numberOf
theorem dX8_cellOf_0 : decode cX8_cellOf 0 = .ok (.iload_n 0, 1) := by decide +kernel
theorem dX8_cellOf_1 : decode cX8_cellOf 1 = .ok (.ifCond .lt 19, 3) := by decide +kernel
theorem dX8_cellOf_4 : decode cX8_cellOf 4 = .ok (.iload_n 0, 1) := by decide +kernel
theorem dX8_cellOf_5 : decode cX8_cellOf 5 = .ok (.bipush 6, 2) := by decide +kernel
theorem dX8_cellOf_7 : decode cX8_cellOf 7 = .ok (.if_icmp .ge 13, 3) := by decide +kernel
theorem dX8_cellOf_10 : decode cX8_cellOf 10 = .ok (.iload_n 1, 1) := by decide +kernel
theorem dX8_cellOf_11 : decode cX8_cellOf 11 = .ok (.ifCond .lt 9, 3) := by decide +kernel
theorem dX8_cellOf_14 : decode cX8_cellOf 14 = .ok (.iload_n 1, 1) := by decide +kernel
theorem dX8_cellOf_15 : decode cX8_cellOf 15 = .ok (.bipush 7, 2) := by decide +kernel
theorem dX8_cellOf_17 : decode cX8_cellOf 17 = .ok (.if_icmp .lt 13, 3) := by decide +kernel
theorem dX8_cellOf_20 : decode cX8_cellOf 20 = .ok (.new 235, 3) := by decide +kernel
theorem dX8_cellOf_23 : decode cX8_cellOf 23 = .ok (.dup, 1) := by decide +kernel
theorem dX8_cellOf_24 : decode cX8_cellOf 24 = .ok (.ldc 237, 2) := by decide +kernel
theorem dX8_cellOf_26 : decode cX8_cellOf 26 = .ok (.invokespecial 239, 3) := by decide +kernel
theorem dX8_cellOf_29 : decode cX8_cellOf 29 = .ok (.athrow, 1) := by decide +kernel
theorem dX8_cellOf_30 : decode cX8_cellOf 30 = .ok (.iload_n 0, 1) := by decide +kernel
theorem dX8_cellOf_31 : decode cX8_cellOf 31 = .ok (.iload_n 1, 1) := by decide +kernel
theorem dX8_cellOf_32 : decode cX8_cellOf 32 = .ok (.invokestatic 214, 3) := by decide +kernel
theorem dX8_cellOf_35 : decode cX8_cellOf 35 = .ok (.ireturn, 1) := by decide +kernel
theorem dX8_sideOf_0 : decode cX8_sideOf 0 = .ok (.iload_n 0, 1) := by decide +kernel
theorem dX8_sideOf_1 : decode cX8_sideOf 1 = .ok (.bipush 115, 2) := by decide +kernel
theorem dX8_sideOf_3 : decode cX8_sideOf 3 = .ok (.if_icmp .ne 5, 3) := by decide +kernel
theorem dX8_sideOf_6 : decode cX8_sideOf 6 = .ok (.iconst 0, 1) := by decide +kernel
theorem dX8_sideOf_7 : decode cX8_sideOf 7 = .ok (.ireturn, 1) := by decide +kernel
theorem dX8_sideOf_8 : decode cX8_sideOf 8 = .ok (.iload_n 0, 1) := by decide +kernel
theorem dX8_sideOf_9 : decode cX8_sideOf 9 = .ok (.bipush 108, 2) := by decide +kernel
theorem dX8_sideOf_11 : decode cX8_sideOf 11 = .ok (.if_icmp .ne 5, 3) := by decide +kernel
theorem dX8_sideOf_14 : decode cX8_sideOf 14 = .ok (.iconst 1, 1) := by decide +kernel
theorem dX8_sideOf_15 : decode cX8_sideOf 15 = .ok (.ireturn, 1) := by decide +kernel
theorem dX8_sideOf_16 : decode cX8_sideOf 16 = .ok (.iload_n 0, 1) := by decide +kernel
theorem dX8_sideOf_17 : decode cX8_sideOf 17 = .ok (.bipush 119, 2) := by decide +kernel
theorem dX8_sideOf_19 : decode cX8_sideOf 19 = .ok (.if_icmp .ne 5, 3) := by decide +kernel
theorem dX8_sideOf_22 : decode cX8_sideOf 22 = .ok (.iconst 2, 1) := by decide +kernel
theorem dX8_sideOf_23 : decode cX8_sideOf 23 = .ok (.ireturn, 1) := by decide +kernel
theorem dX8_sideOf_24 : decode cX8_sideOf 24 = .ok (.iload_n 0, 1) := by decide +kernel
theorem dX8_sideOf_25 : decode cX8_sideOf 25 = .ok (.bipush 101, 2) := by decide +kernel
theorem dX8_sideOf_27 : decode cX8_sideOf 27 = .ok (.if_icmp .ne 5, 3) := by decide +kernel
theorem dX8_sideOf_30 : decode cX8_sideOf 30 = .ok (.iconst 3, 1) := by decide +kernel
theorem dX8_sideOf_31 : decode cX8_sideOf 31 = .ok (.ireturn, 1) := by decide +kernel
theorem dX8_sideOf_32 : decode cX8_sideOf 32 = .ok (.new 167, 3) := by decide +kernel
theorem dX8_sideOf_35 : decode cX8_sideOf 35 = .ok (.dup, 1) := by decide +kernel
theorem dX8_sideOf_36 : decode cX8_sideOf 36 = .ok (.ldc 240, 2) := by decide +kernel
theorem dX8_sideOf_38 : decode cX8_sideOf 38 = .ok (.invokespecial 171, 3) := by decide +kernel
theorem dX8_sideOf_41 : decode cX8_sideOf 41 = .ok (.athrow, 1) := by decide +kernel
theorem dX8_needColumn_0 : decode cX8_needColumn 0 = .ok (.iload_n 0, 1) := by decide +kernel
theorem dX8_needColumn_1 : decode cX8_needColumn 1 = .ok (.ifCond .lt 9, 3) := by decide +kernel
theorem dX8_needColumn_4 : decode cX8_needColumn 4 = .ok (.iload_n 0, 1) := by decide +kernel
theorem dX8_needColumn_5 : decode cX8_needColumn 5 = .ok (.bipush 6, 2) := by decide +kernel
theorem dX8_needColumn_7 : decode cX8_needColumn 7 = .ok (.if_icmp .lt 13, 3) := by decide +kernel
theorem dX8_needColumn_10 : decode cX8_needColumn 10 = .ok (.new 235, 3) := by decide +kernel
theorem dX8_needColumn_13 : decode cX8_needColumn 13 = .ok (.dup, 1) := by decide +kernel
theorem dX8_needColumn_14 : decode cX8_needColumn 14 = .ok (.ldc 242, 2) := by decide +kernel
theorem dX8_needColumn_16 : decode cX8_needColumn 16 = .ok (.invokespecial 239, 3) := by decide +kernel
theorem dX8_needColumn_19 : decode cX8_needColumn 19 = .ok (.athrow, 1) := by decide +kernel
theorem dX8_needColumn_20 : decode cX8_needColumn 20 = .ok (.return_, 1) := by decide +kernel
theorem dX8_needGrains_0 : decode cX8_needGrains 0 = .ok (.iload_n 0, 1) := by decide +kernel
theorem dX8_needGrains_1 : decode cX8_needGrains 1 = .ok (.iconst 1, 1) := by decide +kernel
theorem dX8_needGrains_2 : decode cX8_needGrains 2 = .ok (.if_icmp .lt 9, 3) := by decide +kernel
theorem dX8_needGrains_5 : decode cX8_needGrains 5 = .ok (.iload_n 0, 1) := by decide +kernel
theorem dX8_needGrains_6 : decode cX8_needGrains 6 = .ok (.bipush 60, 2) := by decide +kernel
theorem dX8_needGrains_8 : decode cX8_needGrains 8 = .ok (.if_icmp .le 13, 3) := by decide +kernel
theorem dX8_needGrains_11 : decode cX8_needGrains 11 = .ok (.new 167, 3) := by decide +kernel
theorem dX8_needGrains_14 : decode cX8_needGrains 14 = .ok (.dup, 1) := by decide +kernel
theorem dX8_needGrains_15 : decode cX8_needGrains 15 = .ok (.ldc 244, 2) := by decide +kernel
theorem dX8_needGrains_17 : decode cX8_needGrains 17 = .ok (.invokespecial 171, 3) := by decide +kernel
theorem dX8_needGrains_20 : decode cX8_needGrains 20 = .ok (.athrow, 1) := by decide +kernel
theorem dX8_needGrains_21 : decode cX8_needGrains 21 = .ok (.return_, 1) := by decide +kernel
theorem dX8_needEnergy_0 : decode cX8_needEnergy 0 = .ok (.iload_n 0, 1) := by decide +kernel
theorem dX8_needEnergy_1 : decode cX8_needEnergy 1 = .ok (.iconst 1, 1) := by decide +kernel
theorem dX8_needEnergy_2 : decode cX8_needEnergy 2 = .ok (.if_icmp .lt 9, 3) := by decide +kernel
theorem dX8_needEnergy_5 : decode cX8_needEnergy 5 = .ok (.iload_n 0, 1) := by decide +kernel
theorem dX8_needEnergy_6 : decode cX8_needEnergy 6 = .ok (.bipush 60, 2) := by decide +kernel
theorem dX8_needEnergy_8 : decode cX8_needEnergy 8 = .ok (.if_icmp .le 13, 3) := by decide +kernel
theorem dX8_needEnergy_11 : decode cX8_needEnergy 11 = .ok (.new 167, 3) := by decide +kernel
theorem dX8_needEnergy_14 : decode cX8_needEnergy 14 = .ok (.dup, 1) := by decide +kernel
theorem dX8_needEnergy_15 : decode cX8_needEnergy 15 = .ok (.ldc 246, 2) := by decide +kernel
theorem dX8_needEnergy_17 : decode cX8_needEnergy 17 = .ok (.invokespecial 171, 3) := by decide +kernel
theorem dX8_needEnergy_20 : decode cX8_needEnergy 20 = .ok (.athrow, 1) := by decide +kernel
theorem dX8_needEnergy_21 : decode cX8_needEnergy 21 = .ok (.return_, 1) := by decide +kernel
theorem dX8_needLevel_0 : decode cX8_needLevel 0 = .ok (.iload_n 0, 1) := by decide +kernel
theorem dX8_needLevel_1 : decode cX8_needLevel 1 = .ok (.ifCond .lt 9, 3) := by decide +kernel
theorem dX8_needLevel_4 : decode cX8_needLevel 4 = .ok (.iload_n 0, 1) := by decide +kernel
theorem dX8_needLevel_5 : decode cX8_needLevel 5 = .ok (.bipush 20, 2) := by decide +kernel
theorem dX8_needLevel_7 : decode cX8_needLevel 7 = .ok (.if_icmp .le 13, 3) := by decide +kernel
theorem dX8_needLevel_10 : decode cX8_needLevel 10 = .ok (.new 167, 3) := by decide +kernel
theorem dX8_needLevel_13 : decode cX8_needLevel 13 = .ok (.dup, 1) := by decide +kernel
theorem dX8_needLevel_14 : decode cX8_needLevel 14 = .ok (.ldc 248, 2) := by decide +kernel
theorem dX8_needLevel_16 : decode cX8_needLevel 16 = .ok (.invokespecial 171, 3) := by decide +kernel
theorem dX8_needLevel_19 : decode cX8_needLevel 19 = .ok (.athrow, 1) := by decide +kernel
theorem dX8_needLevel_20 : decode cX8_needLevel 20 = .ok (.return_, 1) := by decide +kernel
set_option maxRecDepth 20000 in
theorem ggX8_tryPouring_X8_cellOf : GoodIn wsX8_tryPouring wsX8_cellOf := goodIn_ca (goodIn_r _ [6, 7, 8, 9, 10, 5, 11] (by decide +kernel) (by decide +kernel)) (goodIn_sub (fun _ h => List.mem_cons_of_mem _ (List.mem_append_left _ (List.mem_append_right _ h))) (by decide +kernel))
set_option maxRecDepth 20000 in
theorem gX8_tryPouring_X8_cellOf : GoodIn wsX8_tryPouring (va_wsS RX8 69 yX8_cellOf wsX8_cellOf) := goodIn_app (goodIn_of _ (by decide +kernel)) ggX8_tryPouring_X8_cellOf
set_option maxRecDepth 20000 in
theorem ggX8_tryPouring_X8_needGrains : GoodIn wsX8_tryPouring wsX8_needGrains := goodIn_ca (goodIn_r _ [14, 15, 16] (by decide +kernel) (by decide +kernel)) (goodIn_sub (fun _ h => List.mem_cons_of_mem _ (List.mem_append_right _ h)) (by decide +kernel))
set_option maxRecDepth 20000 in
theorem gX8_tryPouring_X8_needGrains : GoodIn wsX8_tryPouring (va_wsS RX8 73 yX8_needGrains wsX8_needGrains) := goodIn_app (goodIn_of _ (by decide +kernel)) ggX8_tryPouring_X8_needGrains
set_option maxRecDepth 20000 in
theorem ggX8_tryPouring_X6_start : GoodIn wsX8_tryPouring wsX6_start := goodIn_r _ [21, 22, 23, 24, 25, 26, 27, 28, 29, 30, 31, 32, 33, 34, 35, 36, 37, 57, 58, 59, 60, 61, 62] (by decide +kernel) (by decide +kernel)
set_option maxRecDepth 20000 in
theorem gX8_tryPouring_X6_start : GoodIn wsX8_tryPouring (wsV RX8 250 RX6 yX6_start wsX6_start) := goodIn_app (goodIn_of _ (by decide +kernel)) ggX8_tryPouring_X6_start
set_option maxRecDepth 20000 in
theorem ggX8_tryPouring_X3_add : GoodIn wsX8_tryPouring wsX3_add := goodIn_r _ [41, 29, 62] (by decide +kernel) (by decide +kernel)
set_option maxRecDepth 20000 in
theorem gX8_tryPouring_X3_add : GoodIn wsX8_tryPouring (wsV RX8 255 RX3 yX3_add wsX3_add) := goodIn_app (goodIn_of _ (by decide +kernel)) ggX8_tryPouring_X3_add
theorem dX8_tryPouring_0 : decode cX8_tryPouring 0 = .ok (.iload_n 1, 1) := by decide +kernel
theorem dX8_tryPouring_1 : decode cX8_tryPouring 1 = .ok (.iload_n 2, 1) := by decide +kernel
theorem dX8_tryPouring_2 : decode cX8_tryPouring 2 = .ok (.invokestatic 69, 3) := by decide +kernel
theorem dX8_tryPouring_5 : decode cX8_tryPouring 5 = .ok (.istore 4, 2) := by decide +kernel
theorem dX8_tryPouring_7 : decode cX8_tryPouring 7 = .ok (.iload_n 3, 1) := by decide +kernel
theorem dX8_tryPouring_8 : decode cX8_tryPouring 8 = .ok (.invokestatic 73, 3) := by decide +kernel
theorem dX8_tryPouring_11 : decode cX8_tryPouring 11 = .ok (.aload_n 0, 1) := by decide +kernel
theorem dX8_tryPouring_12 : decode cX8_tryPouring 12 = .ok (.getfield 30, 3) := by decide +kernel
theorem dX8_tryPouring_15 : decode cX8_tryPouring 15 = .ok (.aload_n 0, 1) := by decide +kernel
theorem dX8_tryPouring_16 : decode cX8_tryPouring 16 = .ok (.getfield 39, 3) := by decide +kernel
theorem dX8_tryPouring_19 : decode cX8_tryPouring 19 = .ok (.getfield 61, 3) := by decide +kernel
theorem dX8_tryPouring_22 : decode cX8_tryPouring 22 = .ok (.invokevirtual 250, 3) := by decide +kernel
theorem dX8_tryPouring_25 : decode cX8_tryPouring 25 = .ok (.aload_n 0, 1) := by decide +kernel
theorem dX8_tryPouring_26 : decode cX8_tryPouring 26 = .ok (.getfield 30, 3) := by decide +kernel
theorem dX8_tryPouring_29 : decode cX8_tryPouring 29 = .ok (.getfield 254, 3) := by decide +kernel
theorem dX8_tryPouring_32 : decode cX8_tryPouring 32 = .ok (.iload 4, 2) := by decide +kernel
theorem dX8_tryPouring_34 : decode cX8_tryPouring 34 = .ok (.iload_n 3, 1) := by decide +kernel
theorem dX8_tryPouring_35 : decode cX8_tryPouring 35 = .ok (.invokevirtual 255, 3) := by decide +kernel
theorem dX8_tryPouring_38 : decode cX8_tryPouring 38 = .ok (.return_, 1) := by decide +kernel
set_option maxRecDepth 20000 in
theorem ggX8_isBlownFrom_X3_at : GoodIn wsX8_isBlownFrom wsX3_at := goodIn_r _ [8, 9, 39] (by decide +kernel) (by decide +kernel)
set_option maxRecDepth 20000 in
theorem gX8_isBlownFrom_X3_at : GoodIn wsX8_isBlownFrom (wsV RX8 84 RX3 yX3_at wsX3_at) := goodIn_app (goodIn_of _ (by decide +kernel)) ggX8_isBlownFrom_X3_at
set_option maxRecDepth 20000 in
theorem ggX8_isBlownFrom_X2_isShut : GoodIn wsX8_isBlownFrom wsX2_isShut := goodIn_r _ [14, 15, 16, 17, 13, 18, 19, 20, 21, 22, 23, 5, 6, 7, 8, 9, 40, 41, 39] (by decide +kernel) (by decide +kernel)
set_option maxRecDepth 20000 in
theorem gX8_isBlownFrom_X2_isShut : GoodIn wsX8_isBlownFrom (wsV RX8 128 RX2 yX2_isShut wsX2_isShut) := goodIn_app (goodIn_of _ (by decide +kernel)) ggX8_isBlownFrom_X2_isShut
theorem dX8_isBlownFrom_0 : decode cX8_isBlownFrom 0 = .ok (.aload_n 0, 1) := by decide +kernel
theorem dX8_isBlownFrom_1 : decode cX8_isBlownFrom 1 = .ok (.getfield 21, 3) := by decide +kernel
theorem dX8_isBlownFrom_4 : decode cX8_isBlownFrom 4 = .ok (.iload_n 1, 1) := by decide +kernel
theorem dX8_isBlownFrom_5 : decode cX8_isBlownFrom 5 = .ok (.invokevirtual 84, 3) := by decide +kernel
theorem dX8_isBlownFrom_8 : decode cX8_isBlownFrom 8 = .ok (.ifCond .ne 34, 3) := by decide +kernel
theorem dX8_isBlownFrom_11 : decode cX8_isBlownFrom 11 = .ok (.aload_n 0, 1) := by decide +kernel
theorem dX8_isBlownFrom_12 : decode cX8_isBlownFrom 12 = .ok (.getfield 39, 3) := by decide +kernel
theorem dX8_isBlownFrom_15 : decode cX8_isBlownFrom 15 = .ok (.getfield 61, 3) := by decide +kernel
theorem dX8_isBlownFrom_18 : decode cX8_isBlownFrom 18 = .ok (.iload_n 1, 1) := by decide +kernel
theorem dX8_isBlownFrom_19 : decode cX8_isBlownFrom 19 = .ok (.invokevirtual 84, 3) := by decide +kernel
theorem dX8_isBlownFrom_22 : decode cX8_isBlownFrom 22 = .ok (.iload_n 2, 1) := by decide +kernel
theorem dX8_isBlownFrom_23 : decode cX8_isBlownFrom 23 = .ok (.if_icmp .lt 19, 3) := by decide +kernel
theorem dX8_isBlownFrom_26 : decode cX8_isBlownFrom 26 = .ok (.aload_n 0, 1) := by decide +kernel
theorem dX8_isBlownFrom_27 : decode cX8_isBlownFrom 27 = .ok (.getfield 12, 3) := by decide +kernel
theorem dX8_isBlownFrom_30 : decode cX8_isBlownFrom 30 = .ok (.iload_n 1, 1) := by decide +kernel
theorem dX8_isBlownFrom_31 : decode cX8_isBlownFrom 31 = .ok (.iconst 1, 1) := by decide +kernel
theorem dX8_isBlownFrom_32 : decode cX8_isBlownFrom 32 = .ok (.invokevirtual 128, 3) := by decide +kernel
theorem dX8_isBlownFrom_35 : decode cX8_isBlownFrom 35 = .ok (.ifCond .ne 7, 3) := by decide +kernel
theorem dX8_isBlownFrom_38 : decode cX8_isBlownFrom 38 = .ok (.iconst 1, 1) := by decide +kernel
theorem dX8_isBlownFrom_39 : decode cX8_isBlownFrom 39 = .ok (.goto 4, 3) := by decide +kernel
theorem dX8_isBlownFrom_42 : decode cX8_isBlownFrom 42 = .ok (.iconst 0, 1) := by decide +kernel
theorem dX8_isBlownFrom_43 : decode cX8_isBlownFrom 43 = .ok (.ireturn, 1) := by decide +kernel
theorem dX8_numberOf_0 : decode cX8_numberOf 0 = .ok (.iload_n 1, 1) := by decide +kernel
theorem dX8_numberOf_1 : decode cX8_numberOf 1 = .ok (.bipush 6, 2) := by decide +kernel
theorem dX8_numberOf_3 : decode cX8_numberOf 3 = .ok (.imul, 1) := by decide +kernel
theorem dX8_numberOf_4 : decode cX8_numberOf 4 = .ok (.iload_n 0, 1) := by decide +kernel
theorem dX8_numberOf_5 : decode cX8_numberOf 5 = .ok (.iadd, 1) := by decide +kernel
theorem dX8_numberOf_6 : decode cX8_numberOf 6 = .ok (.ireturn, 1) := by decide +kernel
theorem dX8_isCell_0 : decode cX8_isCell 0 = .ok (.iload_n 0, 1) := by decide +kernel
theorem dX8_isCell_1 : decode cX8_isCell 1 = .ok (.ifCond .lt 13, 3) := by decide +kernel
theorem dX8_isCell_4 : decode cX8_isCell 4 = .ok (.iload_n 0, 1) := by decide +kernel
theorem dX8_isCell_5 : decode cX8_isCell 5 = .ok (.bipush 42, 2) := by decide +kernel
theorem dX8_isCell_7 : decode cX8_isCell 7 = .ok (.if_icmp .ge 7, 3) := by decide +kernel
theorem dX8_isCell_10 : decode cX8_isCell 10 = .ok (.iconst 1, 1) := by decide +kernel
theorem dX8_isCell_11 : decode cX8_isCell 11 = .ok (.goto 4, 3) := by decide +kernel
theorem dX8_isCell_14 : decode cX8_isCell 14 = .ok (.iconst 0, 1) := by decide +kernel
theorem dX8_isCell_15 : decode cX8_isCell 15 = .ok (.ireturn, 1) := by decide +kernel
theorem dX8_placeOf_0 : decode cX8_placeOf 0 = .ok (.iload_n 0, 1) := by decide +kernel
theorem dX8_placeOf_1 : decode cX8_placeOf 1 = .ok (.iconst 4, 1) := by decide +kernel
theorem dX8_placeOf_2 : decode cX8_placeOf 2 = .ok (.imul, 1) := by decide +kernel
theorem dX8_placeOf_3 : decode cX8_placeOf 3 = .ok (.iload_n 1, 1) := by decide +kernel
theorem dX8_placeOf_4 : decode cX8_placeOf 4 = .ok (.iadd, 1) := by decide +kernel
theorem dX8_placeOf_5 : decode cX8_placeOf 5 = .ok (.ireturn, 1) := by decide +kernel
theorem dX8_opposite_0 : decode cX8_opposite 0 = .ok (.iload_n 0, 1) := by decide +kernel
theorem dX8_opposite_1 : decode cX8_opposite 1 = .ok (.iconst 1, 1) := by decide +kernel
theorem dX8_opposite_2 : decode cX8_opposite 2 = .ok (.ixor, 1) := by decide +kernel
theorem dX8_opposite_3 : decode cX8_opposite 3 = .ok (.ireturn, 1) := by decide +kernel
