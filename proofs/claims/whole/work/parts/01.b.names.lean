set_option maxRecDepth 20000 in
theorem ggX0_init_X3_init : GoodIn wsX0_init wsX3_init := goodIn_r _ [11, 12, 2, 3, 13, 14, 15] (by decide +kernel) (by decide +kernel)
set_option maxRecDepth 20000 in
theorem gX0_init_X3_init : GoodIn wsX0_init (wsX3_init) := ggX0_init_X3_init
theorem dX0_init_0 : decode cX0_init 0 = .ok (.aload_n 0, 1) := by decide +kernel
theorem dX0_init_1 : decode cX0_init 1 = .ok (.invokespecial 3, 3) := by decide +kernel
theorem dX0_init_4 : decode cX0_init 4 = .ok (.aload_n 0, 1) := by decide +kernel
theorem dX0_init_5 : decode cX0_init 5 = .ok (.new 9, 3) := by decide +kernel
theorem dX0_init_8 : decode cX0_init 8 = .ok (.dup, 1) := by decide +kernel
theorem dX0_init_9 : decode cX0_init 9 = .ok (.bipush 42, 2) := by decide +kernel
theorem dX0_init_11 : decode cX0_init 11 = .ok (.invokespecial 11, 3) := by decide +kernel
theorem dX0_init_14 : decode cX0_init 14 = .ok (.putfield 14, 3) := by decide +kernel
theorem dX0_init_17 : decode cX0_init 17 = .ok (.aload_n 0, 1) := by decide +kernel
theorem dX0_init_18 : decode cX0_init 18 = .ok (.new 9, 3) := by decide +kernel
theorem dX0_init_21 : decode cX0_init 21 = .ok (.dup, 1) := by decide +kernel
theorem dX0_init_22 : decode cX0_init 22 = .ok (.bipush 42, 2) := by decide +kernel
theorem dX0_init_24 : decode cX0_init 24 = .ok (.invokespecial 11, 3) := by decide +kernel
theorem dX0_init_27 : decode cX0_init 27 = .ok (.putfield 20, 3) := by decide +kernel
theorem dX0_init_30 : decode cX0_init 30 = .ok (.return_, 1) := by decide +kernel
set_option maxRecDepth 20000 in
theorem ggX0_clear_X3_clear : GoodIn wsX0_clear wsX3_clear := goodIn_r _ [8, 9, 14] (by decide +kernel) (by decide +kernel)
set_option maxRecDepth 20000 in
theorem gX0_clear_X3_clear : GoodIn wsX0_clear (wsV RX0 23 RX3 yX3_clear wsX3_clear) := goodIn_app (goodIn_of _ (by decide +kernel)) ggX0_clear_X3_clear
theorem dX0_clear_0 : decode cX0_clear 0 = .ok (.aload_n 0, 1) := by decide +kernel
theorem dX0_clear_1 : decode cX0_clear 1 = .ok (.getfield 20, 3) := by decide +kernel
theorem dX0_clear_4 : decode cX0_clear 4 = .ok (.invokevirtual 23, 3) := by decide +kernel
theorem dX0_clear_7 : decode cX0_clear 7 = .ok (.aload_n 0, 1) := by decide +kernel
theorem dX0_clear_8 : decode cX0_clear 8 = .ok (.iconst 0, 1) := by decide +kernel
theorem dX0_clear_9 : decode cX0_clear 9 = .ok (.putfield 26, 3) := by decide +kernel
theorem dX0_clear_12 : decode cX0_clear 12 = .ok (.aload_n 0, 1) := by decide +kernel
theorem dX0_clear_13 : decode cX0_clear 13 = .ok (.iconst 0, 1) := by decide +kernel
theorem dX0_clear_14 : decode cX0_clear 14 = .ok (.putfield 30, 3) := by decide +kernel
theorem dX0_clear_17 : decode cX0_clear 17 = .ok (.return_, 1) := by decide +kernel
theorem dX0_isEmpty_0 : decode cX0_isEmpty 0 = .ok (.aload_n 0, 1) := by decide +kernel
theorem dX0_isEmpty_1 : decode cX0_isEmpty 1 = .ok (.getfield 30, 3) := by decide +kernel
theorem dX0_isEmpty_4 : decode cX0_isEmpty 4 = .ok (.ifCond .ne 7, 3) := by decide +kernel
theorem dX0_isEmpty_7 : decode cX0_isEmpty 7 = .ok (.iconst 1, 1) := by decide +kernel
theorem dX0_isEmpty_8 : decode cX0_isEmpty 8 = .ok (.goto 4, 3) := by decide +kernel
theorem dX0_isEmpty_11 : decode cX0_isEmpty 11 = .ok (.iconst 0, 1) := by decide +kernel
theorem dX0_isEmpty_12 : decode cX0_isEmpty 12 = .ok (.ireturn, 1) := by decide +kernel
set_option maxRecDepth 20000 in
theorem ggX0_enter_X8_isCell : GoodIn wsX0_enter wsX8_isCell := goodIn_r _ [7] (by decide +kernel) (by decide +kernel)
set_option maxRecDepth 20000 in
theorem gX0_enter_X8_isCell_n33 : GoodIn wsX0_enter (wsX8_isCell) := ggX0_enter_X8_isCell
set_option maxRecDepth 20000 in
theorem ggX0_enter_X3_at : GoodIn wsX0_enter wsX3_at := goodIn_r _ [12, 13, 22] (by decide +kernel) (by decide +kernel)
set_option maxRecDepth 20000 in
theorem gX0_enter_X3_at : GoodIn wsX0_enter (wsV RX0 37 RX3 yX3_at wsX3_at) := goodIn_app (goodIn_of _ (by decide +kernel)) ggX0_enter_X3_at
set_option maxRecDepth 20000 in
theorem ggX0_enter_X3_put : GoodIn wsX0_enter wsX3_put := goodIn_r _ [17, 13, 22] (by decide +kernel) (by decide +kernel)
set_option maxRecDepth 20000 in
theorem gX0_enter_X3_put : GoodIn wsX0_enter (wsV RX0 41 RX3 yX3_put wsX3_put) := goodIn_app (goodIn_of _ (by decide +kernel)) ggX0_enter_X3_put
theorem dX0_enter_0 : decode cX0_enter 0 = .ok (.iload_n 1, 1) := by decide +kernel
theorem dX0_enter_1 : decode cX0_enter 1 = .ok (.invokestatic 33, 3) := by decide +kernel
theorem dX0_enter_4 : decode cX0_enter 4 = .ok (.ifCond .eq 62, 3) := by decide +kernel
theorem dX0_enter_7 : decode cX0_enter 7 = .ok (.aload_n 0, 1) := by decide +kernel
theorem dX0_enter_8 : decode cX0_enter 8 = .ok (.getfield 20, 3) := by decide +kernel
theorem dX0_enter_11 : decode cX0_enter 11 = .ok (.iload_n 1, 1) := by decide +kernel
theorem dX0_enter_12 : decode cX0_enter 12 = .ok (.invokevirtual 37, 3) := by decide +kernel
theorem dX0_enter_15 : decode cX0_enter 15 = .ok (.ifCond .ne 51, 3) := by decide +kernel
theorem dX0_enter_18 : decode cX0_enter 18 = .ok (.aload_n 0, 1) := by decide +kernel
theorem dX0_enter_19 : decode cX0_enter 19 = .ok (.getfield 30, 3) := by decide +kernel
theorem dX0_enter_22 : decode cX0_enter 22 = .ok (.bipush 42, 2) := by decide +kernel
theorem dX0_enter_24 : decode cX0_enter 24 = .ok (.if_icmp .ge 42, 3) := by decide +kernel
theorem dX0_enter_27 : decode cX0_enter 27 = .ok (.aload_n 0, 1) := by decide +kernel
theorem dX0_enter_28 : decode cX0_enter 28 = .ok (.getfield 14, 3) := by decide +kernel
theorem dX0_enter_31 : decode cX0_enter 31 = .ok (.aload_n 0, 1) := by decide +kernel
theorem dX0_enter_32 : decode cX0_enter 32 = .ok (.getfield 26, 3) := by decide +kernel
theorem dX0_enter_35 : decode cX0_enter 35 = .ok (.aload_n 0, 1) := by decide +kernel
theorem dX0_enter_36 : decode cX0_enter 36 = .ok (.getfield 30, 3) := by decide +kernel
theorem dX0_enter_39 : decode cX0_enter 39 = .ok (.iadd, 1) := by decide +kernel
theorem dX0_enter_40 : decode cX0_enter 40 = .ok (.bipush 42, 2) := by decide +kernel
theorem dX0_enter_42 : decode cX0_enter 42 = .ok (.irem, 1) := by decide +kernel
theorem dX0_enter_43 : decode cX0_enter 43 = .ok (.iload_n 1, 1) := by decide +kernel
theorem dX0_enter_44 : decode cX0_enter 44 = .ok (.invokevirtual 41, 3) := by decide +kernel
theorem dX0_enter_47 : decode cX0_enter 47 = .ok (.aload_n 0, 1) := by decide +kernel
theorem dX0_enter_48 : decode cX0_enter 48 = .ok (.getfield 20, 3) := by decide +kernel
theorem dX0_enter_51 : decode cX0_enter 51 = .ok (.iload_n 1, 1) := by decide +kernel
theorem dX0_enter_52 : decode cX0_enter 52 = .ok (.iconst 1, 1) := by decide +kernel
theorem dX0_enter_53 : decode cX0_enter 53 = .ok (.invokevirtual 41, 3) := by decide +kernel
theorem dX0_enter_56 : decode cX0_enter 56 = .ok (.aload_n 0, 1) := by decide +kernel
theorem dX0_enter_57 : decode cX0_enter 57 = .ok (.dup, 1) := by decide +kernel
theorem dX0_enter_58 : decode cX0_enter 58 = .ok (.getfield 30, 3) := by decide +kernel
theorem dX0_enter_61 : decode cX0_enter 61 = .ok (.iconst 1, 1) := by decide +kernel
theorem dX0_enter_62 : decode cX0_enter 62 = .ok (.iadd, 1) := by decide +kernel
theorem dX0_enter_63 : decode cX0_enter 63 = .ok (.putfield 30, 3) := by decide +kernel
theorem dX0_enter_66 : decode cX0_enter 66 = .ok (.return_, 1) := by decide +kernel
set_option maxRecDepth 20000 in
theorem ggX0_leave_X3_at : GoodIn wsX0_leave wsX3_at := goodIn_r _ [9, 10, 19] (by decide +kernel) (by decide +kernel)
set_option maxRecDepth 20000 in
theorem gX0_leave_X3_at : GoodIn wsX0_leave (wsV RX0 37 RX3 yX3_at wsX3_at) := goodIn_app (goodIn_of _ (by decide +kernel)) ggX0_leave_X3_at
set_option maxRecDepth 20000 in
theorem ggX0_leave_X3_put : GoodIn wsX0_leave wsX3_put := goodIn_r _ [14, 10, 19] (by decide +kernel) (by decide +kernel)
set_option maxRecDepth 20000 in
theorem gX0_leave_X3_put : GoodIn wsX0_leave (wsV RX0 41 RX3 yX3_put wsX3_put) := goodIn_app (goodIn_of _ (by decide +kernel)) ggX0_leave_X3_put
theorem dX0_leave_0 : decode cX0_leave 0 = .ok (.aload_n 0, 1) := by decide +kernel
theorem dX0_leave_1 : decode cX0_leave 1 = .ok (.getfield 14, 3) := by decide +kernel
theorem dX0_leave_4 : decode cX0_leave 4 = .ok (.aload_n 0, 1) := by decide +kernel
theorem dX0_leave_5 : decode cX0_leave 5 = .ok (.getfield 26, 3) := by decide +kernel
theorem dX0_leave_8 : decode cX0_leave 8 = .ok (.invokevirtual 37, 3) := by decide +kernel
theorem dX0_leave_11 : decode cX0_leave 11 = .ok (.istore_n 1, 1) := by decide +kernel
theorem dX0_leave_12 : decode cX0_leave 12 = .ok (.aload_n 0, 1) := by decide +kernel
theorem dX0_leave_13 : decode cX0_leave 13 = .ok (.getfield 20, 3) := by decide +kernel
theorem dX0_leave_16 : decode cX0_leave 16 = .ok (.iload_n 1, 1) := by decide +kernel
theorem dX0_leave_17 : decode cX0_leave 17 = .ok (.iconst 0, 1) := by decide +kernel
theorem dX0_leave_18 : decode cX0_leave 18 = .ok (.invokevirtual 41, 3) := by decide +kernel
theorem dX0_leave_21 : decode cX0_leave 21 = .ok (.aload_n 0, 1) := by decide +kernel
theorem dX0_leave_22 : decode cX0_leave 22 = .ok (.aload_n 0, 1) := by decide +kernel
theorem dX0_leave_23 : decode cX0_leave 23 = .ok (.getfield 26, 3) := by decide +kernel
theorem dX0_leave_26 : decode cX0_leave 26 = .ok (.iconst 1, 1) := by decide +kernel
theorem dX0_leave_27 : decode cX0_leave 27 = .ok (.iadd, 1) := by decide +kernel
theorem dX0_leave_28 : decode cX0_leave 28 = .ok (.bipush 42, 2) := by decide +kernel
theorem dX0_leave_30 : decode cX0_leave 30 = .ok (.irem, 1) := by decide +kernel
theorem dX0_leave_31 : decode cX0_leave 31 = .ok (.putfield 26, 3) := by decide +kernel
theorem dX0_leave_34 : decode cX0_leave 34 = .ok (.aload_n 0, 1) := by decide +kernel
theorem dX0_leave_35 : decode cX0_leave 35 = .ok (.dup, 1) := by decide +kernel
theorem dX0_leave_36 : decode cX0_leave 36 = .ok (.getfield 30, 3) := by decide +kernel
theorem dX0_leave_39 : decode cX0_leave 39 = .ok (.iconst 1, 1) := by decide +kernel
theorem dX0_leave_40 : decode cX0_leave 40 = .ok (.isub, 1) := by decide +kernel
theorem dX0_leave_41 : decode cX0_leave 41 = .ok (.putfield 30, 3) := by decide +kernel
theorem dX0_leave_44 : decode cX0_leave 44 = .ok (.iload_n 1, 1) := by decide +kernel
theorem dX0_leave_45 : decode cX0_leave 45 = .ok (.ireturn, 1) := by decide +kernel
set_option maxRecDepth 20000 in
theorem ggX1_init_X3_init : GoodIn wsX1_init wsX3_init := goodIn_r _ [16, 17, 2, 3, 18, 19, 27] (by decide +kernel) (by decide +kernel)
set_option maxRecDepth 20000 in
theorem gX1_init_X3_init : GoodIn wsX1_init (wsX3_init) := ggX1_init_X3_init
set_option maxRecDepth 20000 in
theorem ggX1_init_X0_init : GoodIn wsX1_init wsX0_init := goodIn_r _ [21, 22, 2, 3, 23, 5, 6, 24, 25, 26, 15, 16, 17, 18, 19, 27, 32, 33, 34, 35] (by decide +kernel) (by decide +kernel)
set_option maxRecDepth 20000 in
theorem gX1_init_X0_init_n22 : GoodIn wsX1_init (wsX0_init) := ggX1_init_X0_init
theorem dX1_init_0 : decode cX1_init 0 = .ok (.aload_n 0, 1) := by decide +kernel
theorem dX1_init_1 : decode cX1_init 1 = .ok (.invokespecial 3, 3) := by decide +kernel
theorem dX1_init_4 : decode cX1_init 4 = .ok (.aload_n 0, 1) := by decide +kernel
theorem dX1_init_5 : decode cX1_init 5 = .ok (.new 9, 3) := by decide +kernel
theorem dX1_init_8 : decode cX1_init 8 = .ok (.dup, 1) := by decide +kernel
theorem dX1_init_9 : decode cX1_init 9 = .ok (.bipush 42, 2) := by decide +kernel
theorem dX1_init_11 : decode cX1_init 11 = .ok (.invokespecial 11, 3) := by decide +kernel
theorem dX1_init_14 : decode cX1_init 14 = .ok (.putfield 14, 3) := by decide +kernel
theorem dX1_init_17 : decode cX1_init 17 = .ok (.aload_n 0, 1) := by decide +kernel
theorem dX1_init_18 : decode cX1_init 18 = .ok (.new 20, 3) := by decide +kernel
theorem dX1_init_21 : decode cX1_init 21 = .ok (.dup, 1) := by decide +kernel
theorem dX1_init_22 : decode cX1_init 22 = .ok (.invokespecial 22, 3) := by decide +kernel
theorem dX1_init_25 : decode cX1_init 25 = .ok (.putfield 23, 3) := by decide +kernel
theorem dX1_init_28 : decode cX1_init 28 = .ok (.aload_n 0, 1) := by decide +kernel
theorem dX1_init_29 : decode cX1_init 29 = .ok (.aload_n 1, 1) := by decide +kernel
theorem dX1_init_30 : decode cX1_init 30 = .ok (.putfield 27, 3) := by decide +kernel
theorem dX1_init_33 : decode cX1_init 33 = .ok (.aload_n 0, 1) := by decide +kernel
theorem dX1_init_34 : decode cX1_init 34 = .ok (.aload_n 2, 1) := by decide +kernel
theorem dX1_init_35 : decode cX1_init 35 = .ok (.putfield 31, 3) := by decide +kernel
theorem dX1_init_38 : decode cX1_init 38 = .ok (.return_, 1) := by decide +kernel
set_option maxRecDepth 20000 in
theorem ggX1_spread_X3_clear : GoodIn wsX1_spread wsX3_clear := goodIn_r _ [8, 9, 68] (by decide +kernel) (by decide +kernel)
set_option maxRecDepth 20000 in
theorem gX1_spread_X3_clear : GoodIn wsX1_spread (wsV RX1 34 RX3 yX3_clear wsX3_clear) := goodIn_app (goodIn_of _ (by decide +kernel)) ggX1_spread_X3_clear
set_option maxRecDepth 20000 in
theorem ggX1_spread_X0_clear : GoodIn wsX1_spread wsX0_clear := goodIn_r _ [14, 15, 16, 17, 18, 5, 6, 7, 8, 9, 69, 70, 71, 72, 68] (by decide +kernel) (by decide +kernel)
set_option maxRecDepth 20000 in
theorem gX1_spread_X0_clear : GoodIn wsX1_spread (wsV RX1 37 RX0 yX0_clear wsX0_clear) := goodIn_app (goodIn_of _ (by decide +kernel)) ggX1_spread_X0_clear
set_option maxRecDepth 20000 in
theorem ggX1_spread_X2_leadsTo : GoodIn wsX1_spread wsX2_leadsTo := goodIn_r _ [23, 24, 25, 26, 27, 28, 29, 30, 7, 31, 9, 73, 74, 68] (by decide +kernel) (by decide +kernel)
set_option maxRecDepth 20000 in
theorem gX1_spread_X2_leadsTo : GoodIn wsX1_spread (wsV RX1 38 RX2 yX2_leadsTo wsX2_leadsTo) := goodIn_app (goodIn_of _ (by decide +kernel)) ggX1_spread_X2_leadsTo
set_option maxRecDepth 20000 in
theorem ggX1_spread_X1_soak : GoodIn wsX1_spread wsX1_soak := goodIn_r _ [36, 1, 37, 2, 38, 26, 39, 40, 29, 30, 7, 31, 9, 41, 42, 43, 44, 45, 46, 47, 13, 48, 15, 17, 49, 16, 50, 51, 64, 65, 66, 67, 68, 69, 70, 71, 72] (by decide +kernel) (by decide +kernel)
set_option maxRecDepth 20000 in
theorem gX1_spread_X1_soak : GoodIn wsX1_spread (wsV RX1 44 RX1 yX1_soak wsX1_soak) := goodIn_app (goodIn_of _ (by decide +kernel)) ggX1_spread_X1_soak
set_option maxRecDepth 20000 in
theorem ggX1_spread_X0_isEmpty : GoodIn wsX1_spread wsX0_isEmpty := goodIn_r _ [55, 17, 69, 70, 71, 72] (by decide +kernel) (by decide +kernel)
set_option maxRecDepth 20000 in
theorem gX1_spread_X0_isEmpty : GoodIn wsX1_spread (wsV RX1 48 RX0 yX0_isEmpty wsX0_isEmpty) := goodIn_app (goodIn_of _ (by decide +kernel)) ggX1_spread_X0_isEmpty
set_option maxRecDepth 20000 in
theorem ggX1_spread_X0_leave : GoodIn wsX1_spread wsX0_leave := goodIn_r _ [59, 49, 16, 15, 17, 50, 29, 30, 7, 31, 9, 51, 42, 43, 44, 69, 70, 71, 72, 68] (by decide +kernel) (by decide +kernel)
set_option maxRecDepth 20000 in
theorem gX1_spread_X0_leave : GoodIn wsX1_spread (wsV RX1 52 RX0 yX0_leave wsX0_leave) := goodIn_app (goodIn_of _ (by decide +kernel)) ggX1_spread_X0_leave
set_option maxRecDepth 20000 in
theorem ggX1_spread_X3_total : GoodIn wsX1_spread wsX3_total := goodIn_r _ [63, 9, 68] (by decide +kernel) (by decide +kernel)
set_option maxRecDepth 20000 in
theorem gX1_spread_X3_total : GoodIn wsX1_spread (wsV RX1 56 RX3 yX3_total wsX3_total) := goodIn_app (goodIn_of _ (by decide +kernel)) ggX1_spread_X3_total
theorem dX1_spread_0 : decode cX1_spread 0 = .ok (.aload_n 0, 1) := by decide +kernel
theorem dX1_spread_1 : decode cX1_spread 1 = .ok (.getfield 14, 3) := by decide +kernel
theorem dX1_spread_4 : decode cX1_spread 4 = .ok (.invokevirtual 34, 3) := by decide +kernel
theorem dX1_spread_7 : decode cX1_spread 7 = .ok (.aload_n 0, 1) := by decide +kernel
theorem dX1_spread_8 : decode cX1_spread 8 = .ok (.getfield 23, 3) := by decide +kernel
theorem dX1_spread_11 : decode cX1_spread 11 = .ok (.invokevirtual 37, 3) := by decide +kernel
theorem dX1_spread_14 : decode cX1_spread 14 = .ok (.iconst 0, 1) := by decide +kernel
theorem dX1_spread_15 : decode cX1_spread 15 = .ok (.istore_n 2, 1) := by decide +kernel
theorem dX1_spread_16 : decode cX1_spread 16 = .ok (.iload_n 2, 1) := by decide +kernel
theorem dX1_spread_17 : decode cX1_spread 17 = .ok (.bipush 6, 2) := by decide +kernel
theorem dX1_spread_19 : decode cX1_spread 19 = .ok (.if_icmp .ge 28, 3) := by decide +kernel
theorem dX1_spread_22 : decode cX1_spread 22 = .ok (.aload_n 0, 1) := by decide +kernel
theorem dX1_spread_23 : decode cX1_spread 23 = .ok (.getfield 27, 3) := by decide +kernel
theorem dX1_spread_26 : decode cX1_spread 26 = .ok (.iload_n 2, 1) := by decide +kernel
theorem dX1_spread_27 : decode cX1_spread 27 = .ok (.iconst 0, 1) := by decide +kernel
theorem dX1_spread_28 : decode cX1_spread 28 = .ok (.invokevirtual 38, 3) := by decide +kernel
theorem dX1_spread_31 : decode cX1_spread 31 = .ok (.iconst (-1), 1) := by decide +kernel
theorem dX1_spread_32 : decode cX1_spread 32 = .ok (.if_icmp .ne 9, 3) := by decide +kernel
theorem dX1_spread_35 : decode cX1_spread 35 = .ok (.aload_n 0, 1) := by decide +kernel
theorem dX1_spread_36 : decode cX1_spread 36 = .ok (.iload_n 2, 1) := by decide +kernel
theorem dX1_spread_37 : decode cX1_spread 37 = .ok (.iload_n 1, 1) := by decide +kernel
theorem dX1_spread_38 : decode cX1_spread 38 = .ok (.invokevirtual 44, 3) := by decide +kernel
theorem dX1_spread_41 : decode cX1_spread 41 = .ok (.iinc 2 1, 3) := by decide +kernel
theorem dX1_spread_44 : decode cX1_spread 44 = .ok (.goto (-28), 3) := by decide +kernel
theorem dX1_spread_47 : decode cX1_spread 47 = .ok (.iconst 0, 1) := by decide +kernel
theorem dX1_spread_48 : decode cX1_spread 48 = .ok (.istore_n 2, 1) := by decide +kernel
theorem dX1_spread_49 : decode cX1_spread 49 = .ok (.iload_n 2, 1) := by decide +kernel
theorem dX1_spread_50 : decode cX1_spread 50 = .ok (.bipush 42, 2) := by decide +kernel
theorem dX1_spread_52 : decode cX1_spread 52 = .ok (.if_icmp .ge 57, 3) := by decide +kernel
theorem dX1_spread_55 : decode cX1_spread 55 = .ok (.aload_n 0, 1) := by decide +kernel
theorem dX1_spread_56 : decode cX1_spread 56 = .ok (.getfield 23, 3) := by decide +kernel
theorem dX1_spread_59 : decode cX1_spread 59 = .ok (.invokevirtual 48, 3) := by decide +kernel
theorem dX1_spread_62 : decode cX1_spread 62 = .ok (.ifCond .ne 47, 3) := by decide +kernel
theorem dX1_spread_65 : decode cX1_spread 65 = .ok (.aload_n 0, 1) := by decide +kernel
theorem dX1_spread_66 : decode cX1_spread 66 = .ok (.getfield 23, 3) := by decide +kernel
theorem dX1_spread_69 : decode cX1_spread 69 = .ok (.invokevirtual 52, 3) := by decide +kernel
theorem dX1_spread_72 : decode cX1_spread 72 = .ok (.istore_n 3, 1) := by decide +kernel
theorem dX1_spread_73 : decode cX1_spread 73 = .ok (.iconst 0, 1) := by decide +kernel
theorem dX1_spread_74 : decode cX1_spread 74 = .ok (.istore 4, 2) := by decide +kernel
theorem dX1_spread_76 : decode cX1_spread 76 = .ok (.iload 4, 2) := by decide +kernel
theorem dX1_spread_78 : decode cX1_spread 78 = .ok (.iconst 4, 1) := by decide +kernel
theorem dX1_spread_79 : decode cX1_spread 79 = .ok (.if_icmp .ge 24, 3) := by decide +kernel
theorem dX1_spread_82 : decode cX1_spread 82 = .ok (.aload_n 0, 1) := by decide +kernel
theorem dX1_spread_83 : decode cX1_spread 83 = .ok (.aload_n 0, 1) := by decide +kernel
theorem dX1_spread_84 : decode cX1_spread 84 = .ok (.getfield 27, 3) := by decide +kernel
theorem dX1_spread_87 : decode cX1_spread 87 = .ok (.iload_n 3, 1) := by decide +kernel
theorem dX1_spread_88 : decode cX1_spread 88 = .ok (.iload 4, 2) := by decide +kernel
theorem dX1_spread_90 : decode cX1_spread 90 = .ok (.invokevirtual 38, 3) := by decide +kernel
theorem dX1_spread_93 : decode cX1_spread 93 = .ok (.iload_n 1, 1) := by decide +kernel
theorem dX1_spread_94 : decode cX1_spread 94 = .ok (.invokevirtual 44, 3) := by decide +kernel
theorem dX1_spread_97 : decode cX1_spread 97 = .ok (.iinc 4 1, 3) := by decide +kernel
theorem dX1_spread_100 : decode cX1_spread 100 = .ok (.goto (-24), 3) := by decide +kernel
theorem dX1_spread_103 : decode cX1_spread 103 = .ok (.iinc 2 1, 3) := by decide +kernel
theorem dX1_spread_106 : decode cX1_spread 106 = .ok (.goto (-57), 3) := by decide +kernel
theorem dX1_spread_109 : decode cX1_spread 109 = .ok (.aload_n 0, 1) := by decide +kernel
theorem dX1_spread_110 : decode cX1_spread 110 = .ok (.getfield 14, 3) := by decide +kernel
theorem dX1_spread_113 : decode cX1_spread 113 = .ok (.invokevirtual 56, 3) := by decide +kernel
theorem dX1_spread_116 : decode cX1_spread 116 = .ok (.ireturn, 1) := by decide +kernel
set_option maxRecDepth 20000 in
theorem ggX1_soak_X8_isCell : GoodIn wsX1_soak wsX8_isCell := goodIn_r _ [6] (by decide +kernel) (by decide +kernel)
set_option maxRecDepth 20000 in
theorem gX1_soak_X8_isCell_n59 : GoodIn wsX1_soak (wsX8_isCell) := ggX1_soak_X8_isCell
set_option maxRecDepth 20000 in
theorem ggX1_soak_X3_at : GoodIn wsX1_soak wsX3_at := goodIn_r _ [11, 12, 32] (by decide +kernel) (by decide +kernel)
set_option maxRecDepth 20000 in
theorem gX1_soak_X3_at : GoodIn wsX1_soak (wsV RX1 63 RX3 yX3_at wsX3_at) := goodIn_app (goodIn_of _ (by decide +kernel)) ggX1_soak_X3_at
set_option maxRecDepth 20000 in
theorem ggX1_soak_X3_put : GoodIn wsX1_soak wsX3_put := goodIn_r _ [16, 12, 32] (by decide +kernel) (by decide +kernel)
set_option maxRecDepth 20000 in
theorem gX1_soak_X3_put : GoodIn wsX1_soak (wsV RX1 67 RX3 yX3_put wsX3_put) := goodIn_app (goodIn_of _ (by decide +kernel)) ggX1_soak_X3_put
set_option maxRecDepth 20000 in
theorem ggX1_soak_X0_enter : GoodIn wsX1_soak wsX0_enter := goodIn_r _ [21, 22, 23, 24, 25, 4, 5, 6, 26, 8, 9, 10, 11, 12, 27, 14, 15, 16, 33, 34, 35, 36, 32] (by decide +kernel) (by decide +kernel)
set_option maxRecDepth 20000 in
theorem gX1_soak_X0_enter : GoodIn wsX1_soak (wsV RX1 70 RX0 yX0_enter wsX0_enter) := goodIn_app (goodIn_of _ (by decide +kernel)) ggX1_soak_X0_enter
theorem dX1_soak_0 : decode cX1_soak 0 = .ok (.iload_n 1, 1) := by decide +kernel
theorem dX1_soak_1 : decode cX1_soak 1 = .ok (.invokestatic 59, 3) := by decide +kernel
theorem dX1_soak_4 : decode cX1_soak 4 = .ok (.ifCond .eq 43, 3) := by decide +kernel
theorem dX1_soak_7 : decode cX1_soak 7 = .ok (.aload_n 0, 1) := by decide +kernel
theorem dX1_soak_8 : decode cX1_soak 8 = .ok (.getfield 14, 3) := by decide +kernel
theorem dX1_soak_11 : decode cX1_soak 11 = .ok (.iload_n 1, 1) := by decide +kernel
theorem dX1_soak_12 : decode cX1_soak 12 = .ok (.invokevirtual 63, 3) := by decide +kernel
theorem dX1_soak_15 : decode cX1_soak 15 = .ok (.ifCond .ne 32, 3) := by decide +kernel
theorem dX1_soak_18 : decode cX1_soak 18 = .ok (.aload_n 0, 1) := by decide +kernel
theorem dX1_soak_19 : decode cX1_soak 19 = .ok (.getfield 31, 3) := by decide +kernel
theorem dX1_soak_22 : decode cX1_soak 22 = .ok (.iload_n 1, 1) := by decide +kernel
theorem dX1_soak_23 : decode cX1_soak 23 = .ok (.invokevirtual 63, 3) := by decide +kernel
theorem dX1_soak_26 : decode cX1_soak 26 = .ok (.iload_n 2, 1) := by decide +kernel
theorem dX1_soak_27 : decode cX1_soak 27 = .ok (.if_icmp .ge 20, 3) := by decide +kernel
theorem dX1_soak_30 : decode cX1_soak 30 = .ok (.aload_n 0, 1) := by decide +kernel
theorem dX1_soak_31 : decode cX1_soak 31 = .ok (.getfield 14, 3) := by decide +kernel
theorem dX1_soak_34 : decode cX1_soak 34 = .ok (.iload_n 1, 1) := by decide +kernel
theorem dX1_soak_35 : decode cX1_soak 35 = .ok (.iconst 1, 1) := by decide +kernel
theorem dX1_soak_36 : decode cX1_soak 36 = .ok (.invokevirtual 67, 3) := by decide +kernel
theorem dX1_soak_39 : decode cX1_soak 39 = .ok (.aload_n 0, 1) := by decide +kernel
theorem dX1_soak_40 : decode cX1_soak 40 = .ok (.getfield 23, 3) := by decide +kernel
theorem dX1_soak_43 : decode cX1_soak 43 = .ok (.iload_n 1, 1) := by decide +kernel
theorem dX1_soak_44 : decode cX1_soak 44 = .ok (.invokevirtual 70, 3) := by decide +kernel
theorem dX1_soak_47 : decode cX1_soak 47 = .ok (.return_, 1) := by decide +kernel
set_option maxRecDepth 20000 in
theorem ggX1_spreadByRounds_X3_clear : GoodIn wsX1_spreadByRounds wsX3_clear := goodIn_r _ [6, 7, 45] (by decide +kernel) (by decide +kernel)
set_option maxRecDepth 20000 in
theorem gX1_spreadByRounds_X3_clear : GoodIn wsX1_spreadByRounds (wsV RX1 34 RX3 yX3_clear wsX3_clear) := goodIn_app (goodIn_of _ (by decide +kernel)) ggX1_spreadByRounds_X3_clear
set_option maxRecDepth 20000 in
theorem ggX1_spreadByRounds_X1_riseOnce : GoodIn wsX1_spreadByRounds wsX1_riseOnce := goodIn_r _ [12, 1, 13, 14, 15, 16, 5, 17, 7, 18, 19, 20, 11, 21, 22, 23, 24, 25, 26, 27, 28, 29, 30, 31, 32, 33, 34, 35, 36, 41, 42, 43, 44, 45, 46, 47] (by decide +kernel) (by decide +kernel)
set_option maxRecDepth 20000 in
theorem gX1_spreadByRounds_X1_riseOnce : GoodIn wsX1_spreadByRounds (wsV RX1 73 RX1 yX1_riseOnce wsX1_riseOnce) := goodIn_app (goodIn_of _ (by decide +kernel)) ggX1_spreadByRounds_X1_riseOnce
set_option maxRecDepth 20000 in
theorem ggX1_spreadByRounds_X3_total : GoodIn wsX1_spreadByRounds wsX3_total := goodIn_r _ [40, 7, 45] (by decide +kernel) (by decide +kernel)
set_option maxRecDepth 20000 in
theorem gX1_spreadByRounds_X3_total : GoodIn wsX1_spreadByRounds (wsV RX1 56 RX3 yX3_total wsX3_total) := goodIn_app (goodIn_of _ (by decide +kernel)) ggX1_spreadByRounds_X3_total
theorem dX1_spreadByRounds_0 : decode cX1_spreadByRounds 0 = .ok (.aload_n 0, 1) := by decide +kernel
theorem dX1_spreadByRounds_1 : decode cX1_spreadByRounds 1 = .ok (.getfield 14, 3) := by decide +kernel
theorem dX1_spreadByRounds_4 : decode cX1_spreadByRounds 4 = .ok (.invokevirtual 34, 3) := by decide +kernel
theorem dX1_spreadByRounds_7 : decode cX1_spreadByRounds 7 = .ok (.iconst 1, 1) := by decide +kernel
theorem dX1_spreadByRounds_8 : decode cX1_spreadByRounds 8 = .ok (.istore_n 2, 1) := by decide +kernel
theorem dX1_spreadByRounds_9 : decode cX1_spreadByRounds 9 = .ok (.iconst 0, 1) := by decide +kernel
theorem dX1_spreadByRounds_10 : decode cX1_spreadByRounds 10 = .ok (.istore_n 3, 1) := by decide +kernel
theorem dX1_spreadByRounds_11 : decode cX1_spreadByRounds 11 = .ok (.iload_n 3, 1) := by decide +kernel
theorem dX1_spreadByRounds_12 : decode cX1_spreadByRounds 12 = .ok (.bipush 42, 2) := by decide +kernel
theorem dX1_spreadByRounds_14 : decode cX1_spreadByRounds 14 = .ok (.if_icmp .gt 19, 3) := by decide +kernel
theorem dX1_spreadByRounds_17 : decode cX1_spreadByRounds 17 = .ok (.iload_n 2, 1) := by decide +kernel
theorem dX1_spreadByRounds_18 : decode cX1_spreadByRounds 18 = .ok (.ifCond .eq 15, 3) := by decide +kernel
theorem dX1_spreadByRounds_21 : decode cX1_spreadByRounds 21 = .ok (.aload_n 0, 1) := by decide +kernel
theorem dX1_spreadByRounds_22 : decode cX1_spreadByRounds 22 = .ok (.iload_n 1, 1) := by decide +kernel
theorem dX1_spreadByRounds_23 : decode cX1_spreadByRounds 23 = .ok (.invokevirtual 73, 3) := by decide +kernel
theorem dX1_spreadByRounds_26 : decode cX1_spreadByRounds 26 = .ok (.istore_n 2, 1) := by decide +kernel
theorem dX1_spreadByRounds_27 : decode cX1_spreadByRounds 27 = .ok (.iinc 3 1, 3) := by decide +kernel
theorem dX1_spreadByRounds_30 : decode cX1_spreadByRounds 30 = .ok (.goto (-19), 3) := by decide +kernel
theorem dX1_spreadByRounds_33 : decode cX1_spreadByRounds 33 = .ok (.aload_n 0, 1) := by decide +kernel
theorem dX1_spreadByRounds_34 : decode cX1_spreadByRounds 34 = .ok (.getfield 14, 3) := by decide +kernel
theorem dX1_spreadByRounds_37 : decode cX1_spreadByRounds 37 = .ok (.invokevirtual 56, 3) := by decide +kernel
theorem dX1_spreadByRounds_40 : decode cX1_spreadByRounds 40 = .ok (.ireturn, 1) := by decide +kernel
set_option maxRecDepth 20000 in
theorem ggX1_riseOnce_X3_at : GoodIn wsX1_riseOnce wsX3_at := goodIn_r _ [7, 8, 33] (by decide +kernel) (by decide +kernel)
set_option maxRecDepth 20000 in
theorem gX1_riseOnce_X3_at : GoodIn wsX1_riseOnce (wsV RX1 63 RX3 yX3_at wsX3_at) := goodIn_app (goodIn_of _ (by decide +kernel)) ggX1_riseOnce_X3_at
set_option maxRecDepth 20000 in
theorem ggX1_riseOnce_X1_isBesideWater : GoodIn wsX1_riseOnce wsX1_isBesideWater := goodIn_r _ [13, 14, 1, 15, 16, 17, 18, 19, 20, 21, 22, 23, 24, 4, 5, 6, 7, 8, 3, 29, 30, 31, 32, 34, 35, 33] (by decide +kernel) (by decide +kernel)
set_option maxRecDepth 20000 in
theorem gX1_riseOnce_X1_isBesideWater : GoodIn wsX1_riseOnce (wsV RX1 76 RX1 yX1_isBesideWater wsX1_isBesideWater) := goodIn_app (goodIn_of _ (by decide +kernel)) ggX1_riseOnce_X1_isBesideWater
set_option maxRecDepth 20000 in
theorem ggX1_riseOnce_X3_put : GoodIn wsX1_riseOnce wsX3_put := goodIn_r _ [28, 8, 33] (by decide +kernel) (by decide +kernel)
set_option maxRecDepth 20000 in
theorem gX1_riseOnce_X3_put : GoodIn wsX1_riseOnce (wsV RX1 67 RX3 yX3_put wsX3_put) := goodIn_app (goodIn_of _ (by decide +kernel)) ggX1_riseOnce_X3_put
theorem dX1_riseOnce_0 : decode cX1_riseOnce 0 = .ok (.iconst 0, 1) := by decide +kernel
theorem dX1_riseOnce_1 : decode cX1_riseOnce 1 = .ok (.istore_n 2, 1) := by decide +kernel
theorem dX1_riseOnce_2 : decode cX1_riseOnce 2 = .ok (.iconst 0, 1) := by decide +kernel
theorem dX1_riseOnce_3 : decode cX1_riseOnce 3 = .ok (.istore_n 3, 1) := by decide +kernel
theorem dX1_riseOnce_4 : decode cX1_riseOnce 4 = .ok (.iload_n 3, 1) := by decide +kernel
theorem dX1_riseOnce_5 : decode cX1_riseOnce 5 = .ok (.bipush 42, 2) := by decide +kernel
theorem dX1_riseOnce_7 : decode cX1_riseOnce 7 = .ok (.if_icmp .ge 51, 3) := by decide +kernel
theorem dX1_riseOnce_10 : decode cX1_riseOnce 10 = .ok (.aload_n 0, 1) := by decide +kernel
theorem dX1_riseOnce_11 : decode cX1_riseOnce 11 = .ok (.getfield 14, 3) := by decide +kernel
theorem dX1_riseOnce_14 : decode cX1_riseOnce 14 = .ok (.iload_n 3, 1) := by decide +kernel
theorem dX1_riseOnce_15 : decode cX1_riseOnce 15 = .ok (.invokevirtual 63, 3) := by decide +kernel
theorem dX1_riseOnce_18 : decode cX1_riseOnce 18 = .ok (.ifCond .ne 34, 3) := by decide +kernel
theorem dX1_riseOnce_21 : decode cX1_riseOnce 21 = .ok (.aload_n 0, 1) := by decide +kernel
theorem dX1_riseOnce_22 : decode cX1_riseOnce 22 = .ok (.getfield 31, 3) := by decide +kernel
theorem dX1_riseOnce_25 : decode cX1_riseOnce 25 = .ok (.iload_n 3, 1) := by decide +kernel
theorem dX1_riseOnce_26 : decode cX1_riseOnce 26 = .ok (.invokevirtual 63, 3) := by decide +kernel
theorem dX1_riseOnce_29 : decode cX1_riseOnce 29 = .ok (.iload_n 1, 1) := by decide +kernel
theorem dX1_riseOnce_30 : decode cX1_riseOnce 30 = .ok (.if_icmp .ge 22, 3) := by decide +kernel
theorem dX1_riseOnce_33 : decode cX1_riseOnce 33 = .ok (.aload_n 0, 1) := by decide +kernel
theorem dX1_riseOnce_34 : decode cX1_riseOnce 34 = .ok (.iload_n 3, 1) := by decide +kernel
theorem dX1_riseOnce_35 : decode cX1_riseOnce 35 = .ok (.invokevirtual 76, 3) := by decide +kernel
theorem dX1_riseOnce_38 : decode cX1_riseOnce 38 = .ok (.ifCond .eq 14, 3) := by decide +kernel
theorem dX1_riseOnce_41 : decode cX1_riseOnce 41 = .ok (.aload_n 0, 1) := by decide +kernel
theorem dX1_riseOnce_42 : decode cX1_riseOnce 42 = .ok (.getfield 14, 3) := by decide +kernel
theorem dX1_riseOnce_45 : decode cX1_riseOnce 45 = .ok (.iload_n 3, 1) := by decide +kernel
theorem dX1_riseOnce_46 : decode cX1_riseOnce 46 = .ok (.iconst 1, 1) := by decide +kernel
theorem dX1_riseOnce_47 : decode cX1_riseOnce 47 = .ok (.invokevirtual 67, 3) := by decide +kernel
theorem dX1_riseOnce_50 : decode cX1_riseOnce 50 = .ok (.iconst 1, 1) := by decide +kernel
theorem dX1_riseOnce_51 : decode cX1_riseOnce 51 = .ok (.istore_n 2, 1) := by decide +kernel
theorem dX1_riseOnce_52 : decode cX1_riseOnce 52 = .ok (.iinc 3 1, 3) := by decide +kernel
theorem dX1_riseOnce_55 : decode cX1_riseOnce 55 = .ok (.goto (-51), 3) := by decide +kernel
theorem dX1_riseOnce_58 : decode cX1_riseOnce 58 = .ok (.iload_n 2, 1) := by decide +kernel
theorem dX1_riseOnce_59 : decode cX1_riseOnce 59 = .ok (.ireturn, 1) := by decide +kernel
set_option maxRecDepth 20000 in
theorem ggX1_isBesideWater_X2_leadsTo : GoodIn wsX1_isBesideWater wsX2_leadsTo := goodIn_r _ [7, 8, 9, 10, 11, 12, 13, 14, 15, 16, 17, 23, 24, 25] (by decide +kernel) (by decide +kernel)
set_option maxRecDepth 20000 in
theorem gX1_isBesideWater_X2_leadsTo : GoodIn wsX1_isBesideWater (wsV RX1 38 RX2 yX2_leadsTo wsX2_leadsTo) := goodIn_app (goodIn_of _ (by decide +kernel)) ggX1_isBesideWater_X2_leadsTo
set_option maxRecDepth 20000 in
theorem ggX1_isBesideWater_X3_at : GoodIn wsX1_isBesideWater wsX3_at := goodIn_r _ [16, 17, 25] (by decide +kernel) (by decide +kernel)
set_option maxRecDepth 20000 in
theorem gX1_isBesideWater_X3_at : GoodIn wsX1_isBesideWater (wsV RX1 63 RX3 yX3_at wsX3_at) := goodIn_app (goodIn_of _ (by decide +kernel)) ggX1_isBesideWater_X3_at
theorem dX1_isBesideWater_0 : decode cX1_isBesideWater 0 = .ok (.iconst 0, 1) := by decide +kernel
theorem dX1_isBesideWater_1 : decode cX1_isBesideWater 1 = .ok (.istore_n 2, 1) := by decide +kernel
theorem dX1_isBesideWater_2 : decode cX1_isBesideWater 2 = .ok (.iload_n 2, 1) := by decide +kernel
theorem dX1_isBesideWater_3 : decode cX1_isBesideWater 3 = .ok (.iconst 4, 1) := by decide +kernel
theorem dX1_isBesideWater_4 : decode cX1_isBesideWater 4 = .ok (.if_icmp .ge 37, 3) := by decide +kernel
theorem dX1_isBesideWater_7 : decode cX1_isBesideWater 7 = .ok (.aload_n 0, 1) := by decide +kernel
theorem dX1_isBesideWater_8 : decode cX1_isBesideWater 8 = .ok (.getfield 27, 3) := by decide +kernel
theorem dX1_isBesideWater_11 : decode cX1_isBesideWater 11 = .ok (.iload_n 1, 1) := by decide +kernel
theorem dX1_isBesideWater_12 : decode cX1_isBesideWater 12 = .ok (.iload_n 2, 1) := by decide +kernel
theorem dX1_isBesideWater_13 : decode cX1_isBesideWater 13 = .ok (.invokevirtual 38, 3) := by decide +kernel
theorem dX1_isBesideWater_16 : decode cX1_isBesideWater 16 = .ok (.istore_n 3, 1) := by decide +kernel
theorem dX1_isBesideWater_17 : decode cX1_isBesideWater 17 = .ok (.iload_n 3, 1) := by decide +kernel
theorem dX1_isBesideWater_18 : decode cX1_isBesideWater 18 = .ok (.iconst (-1), 1) := by decide +kernel
theorem dX1_isBesideWater_19 : decode cX1_isBesideWater 19 = .ok (.if_icmp .eq 14, 3) := by decide +kernel
theorem dX1_isBesideWater_22 : decode cX1_isBesideWater 22 = .ok (.aload_n 0, 1) := by decide +kernel
theorem dX1_isBesideWater_23 : decode cX1_isBesideWater 23 = .ok (.getfield 14, 3) := by decide +kernel
theorem dX1_isBesideWater_26 : decode cX1_isBesideWater 26 = .ok (.iload_n 3, 1) := by decide +kernel
theorem dX1_isBesideWater_27 : decode cX1_isBesideWater 27 = .ok (.invokevirtual 63, 3) := by decide +kernel
theorem dX1_isBesideWater_30 : decode cX1_isBesideWater 30 = .ok (.ifCond .eq 5, 3) := by decide +kernel
theorem dX1_isBesideWater_33 : decode cX1_isBesideWater 33 = .ok (.iconst 1, 1) := by decide +kernel
theorem dX1_isBesideWater_34 : decode cX1_isBesideWater 34 = .ok (.ireturn, 1) := by decide +kernel
theorem dX1_isBesideWater_35 : decode cX1_isBesideWater 35 = .ok (.iinc 2 1, 3) := by decide +kernel
theorem dX1_isBesideWater_38 : decode cX1_isBesideWater 38 = .ok (.goto (-36), 3) := by decide +kernel
theorem dX1_isBesideWater_41 : decode cX1_isBesideWater 41 = .ok (.iconst 0, 1) := by decide +kernel
theorem dX1_isBesideWater_42 : decode cX1_isBesideWater 42 = .ok (.ireturn, 1) := by decide +kernel
set_option maxRecDepth 20000 in
theorem ggX2_init_X3_init : GoodIn wsX2_init wsX3_init := goodIn_r _ [10, 11, 2, 3, 12, 13, 25] (by decide +kernel) (by decide +kernel)
set_option maxRecDepth 20000 in
theorem gX2_init_X3_init : GoodIn wsX2_init (wsX3_init) := ggX2_init_X3_init
set_option maxRecDepth 20000 in
theorem ggX2_init_X8_placeOf : GoodIn wsX2_init wsX8_placeOf := goodIn_r _ [16] (by decide +kernel) (by decide +kernel)
set_option maxRecDepth 20000 in
theorem gX2_init_X8_placeOf_n20 : GoodIn wsX2_init (wsX8_placeOf) := ggX2_init_X8_placeOf
set_option maxRecDepth 20000 in
theorem ggX2_init_X2_across : GoodIn wsX2_init wsX2_across := goodIn_r _ [20] (by decide +kernel) (by decide +kernel)
set_option maxRecDepth 20000 in
theorem gX2_init_X2_across : GoodIn wsX2_init (va_wsS RX2 24 yX2_across wsX2_across) := goodIn_app (goodIn_of _ (by decide +kernel)) ggX2_init_X2_across
set_option maxRecDepth 20000 in
theorem ggX2_init_X3_put : GoodIn wsX2_init wsX3_put := goodIn_r _ [24, 13, 25] (by decide +kernel) (by decide +kernel)
set_option maxRecDepth 20000 in
theorem gX2_init_X3_put : GoodIn wsX2_init (wsV RX2 27 RX3 yX3_put wsX3_put) := goodIn_app (goodIn_of _ (by decide +kernel)) ggX2_init_X3_put
theorem dX2_init_0 : decode cX2_init 0 = .ok (.aload_n 0, 1) := by decide +kernel
theorem dX2_init_1 : decode cX2_init 1 = .ok (.invokespecial 3, 3) := by decide +kernel
theorem dX2_init_4 : decode cX2_init 4 = .ok (.aload_n 0, 1) := by decide +kernel
theorem dX2_init_5 : decode cX2_init 5 = .ok (.new 9, 3) := by decide +kernel
theorem dX2_init_8 : decode cX2_init 8 = .ok (.dup, 1) := by decide +kernel
theorem dX2_init_9 : decode cX2_init 9 = .ok (.sipush 168, 3) := by decide +kernel
theorem dX2_init_12 : decode cX2_init 12 = .ok (.invokespecial 11, 3) := by decide +kernel
theorem dX2_init_15 : decode cX2_init 15 = .ok (.putfield 14, 3) := by decide +kernel
theorem dX2_init_18 : decode cX2_init 18 = .ok (.iconst 0, 1) := by decide +kernel
theorem dX2_init_19 : decode cX2_init 19 = .ok (.istore_n 1, 1) := by decide +kernel
theorem dX2_init_20 : decode cX2_init 20 = .ok (.iload_n 1, 1) := by decide +kernel
theorem dX2_init_21 : decode cX2_init 21 = .ok (.bipush 42, 2) := by decide +kernel
theorem dX2_init_23 : decode cX2_init 23 = .ok (.if_icmp .ge 39, 3) := by decide +kernel
theorem dX2_init_26 : decode cX2_init 26 = .ok (.iconst 0, 1) := by decide +kernel
theorem dX2_init_27 : decode cX2_init 27 = .ok (.istore_n 2, 1) := by decide +kernel
theorem dX2_init_28 : decode cX2_init 28 = .ok (.iload_n 2, 1) := by decide +kernel
theorem dX2_init_29 : decode cX2_init 29 = .ok (.iconst 4, 1) := by decide +kernel
theorem dX2_init_30 : decode cX2_init 30 = .ok (.if_icmp .ge 26, 3) := by decide +kernel
theorem dX2_init_33 : decode cX2_init 33 = .ok (.aload_n 0, 1) := by decide +kernel
theorem dX2_init_34 : decode cX2_init 34 = .ok (.getfield 14, 3) := by decide +kernel
theorem dX2_init_37 : decode cX2_init 37 = .ok (.iload_n 1, 1) := by decide +kernel
theorem dX2_init_38 : decode cX2_init 38 = .ok (.iload_n 2, 1) := by decide +kernel
theorem dX2_init_39 : decode cX2_init 39 = .ok (.invokestatic 20, 3) := by decide +kernel
theorem dX2_init_42 : decode cX2_init 42 = .ok (.iload_n 1, 1) := by decide +kernel
theorem dX2_init_43 : decode cX2_init 43 = .ok (.iload_n 2, 1) := by decide +kernel
theorem dX2_init_44 : decode cX2_init 44 = .ok (.invokestatic 24, 3) := by decide +kernel
theorem dX2_init_47 : decode cX2_init 47 = .ok (.invokevirtual 27, 3) := by decide +kernel
theorem dX2_init_50 : decode cX2_init 50 = .ok (.iinc 2 1, 3) := by decide +kernel
theorem dX2_init_53 : decode cX2_init 53 = .ok (.goto (-25), 3) := by decide +kernel
theorem dX2_init_56 : decode cX2_init 56 = .ok (.iinc 1 1, 3) := by decide +kernel
theorem dX2_init_59 : decode cX2_init 59 = .ok (.goto (-39), 3) := by decide +kernel
theorem dX2_init_62 : decode cX2_init 62 = .ok (.return_, 1) := by decide +kernel
theorem dX2_across_0 : decode cX2_across 0 = .ok (.iload_n 0, 1) := by decide +kernel
theorem dX2_across_1 : decode cX2_across 1 = .ok (.bipush 6, 2) := by decide +kernel
theorem dX2_across_3 : decode cX2_across 3 = .ok (.irem, 1) := by decide +kernel
theorem dX2_across_4 : decode cX2_across 4 = .ok (.istore_n 2, 1) := by decide +kernel
theorem dX2_across_5 : decode cX2_across 5 = .ok (.iload_n 0, 1) := by decide +kernel
theorem dX2_across_6 : decode cX2_across 6 = .ok (.bipush 6, 2) := by decide +kernel
theorem dX2_across_8 : decode cX2_across 8 = .ok (.idiv, 1) := by decide +kernel
theorem dX2_across_9 : decode cX2_across 9 = .ok (.istore_n 3, 1) := by decide +kernel
theorem dX2_across_10 : decode cX2_across 10 = .ok (.iload_n 1, 1) := by decide +kernel
theorem dX2_across_11 : decode cX2_across 11 = .ok (.ifCond .ne 16, 3) := by decide +kernel
theorem dX2_across_14 : decode cX2_across 14 = .ok (.iload_n 3, 1) := by decide +kernel
theorem dX2_across_15 : decode cX2_across 15 = .ok (.ifCond .le 10, 3) := by decide +kernel
theorem dX2_across_18 : decode cX2_across 18 = .ok (.iload_n 0, 1) := by decide +kernel
theorem dX2_across_19 : decode cX2_across 19 = .ok (.bipush 6, 2) := by decide +kernel
theorem dX2_across_21 : decode cX2_across 21 = .ok (.isub, 1) := by decide +kernel
theorem dX2_across_22 : decode cX2_across 22 = .ok (.goto 4, 3) := by decide +kernel
theorem dX2_across_25 : decode cX2_across 25 = .ok (.iconst (-1), 1) := by decide +kernel
theorem dX2_across_26 : decode cX2_across 26 = .ok (.ireturn, 1) := by decide +kernel
theorem dX2_across_27 : decode cX2_across 27 = .ok (.iload_n 1, 1) := by decide +kernel
theorem dX2_across_28 : decode cX2_across 28 = .ok (.iconst 1, 1) := by decide +kernel
theorem dX2_across_29 : decode cX2_across 29 = .ok (.if_icmp .ne 19, 3) := by decide +kernel
theorem dX2_across_32 : decode cX2_across 32 = .ok (.iload_n 3, 1) := by decide +kernel
theorem dX2_across_33 : decode cX2_across 33 = .ok (.bipush 6, 2) := by decide +kernel
theorem dX2_across_35 : decode cX2_across 35 = .ok (.if_icmp .ge 10, 3) := by decide +kernel
theorem dX2_across_38 : decode cX2_across 38 = .ok (.iload_n 0, 1) := by decide +kernel
theorem dX2_across_39 : decode cX2_across 39 = .ok (.bipush 6, 2) := by decide +kernel
theorem dX2_across_41 : decode cX2_across 41 = .ok (.iadd, 1) := by decide +kernel
theorem dX2_across_42 : decode cX2_across 42 = .ok (.goto 5, 3) := by decide +kernel
theorem dX2_across_45 : decode cX2_across 45 = .ok (.bipush (-2), 2) := by decide +kernel
theorem dX2_across_47 : decode cX2_across 47 = .ok (.ireturn, 1) := by decide +kernel
theorem dX2_across_48 : decode cX2_across 48 = .ok (.iload_n 1, 1) := by decide +kernel
theorem dX2_across_49 : decode cX2_across 49 = .ok (.iconst 2, 1) := by decide +kernel
theorem dX2_across_50 : decode cX2_across 50 = .ok (.if_icmp .ne 16, 3) := by decide +kernel
theorem dX2_across_53 : decode cX2_across 53 = .ok (.iload_n 2, 1) := by decide +kernel
theorem dX2_across_54 : decode cX2_across 54 = .ok (.ifCond .le 9, 3) := by decide +kernel
theorem dX2_across_57 : decode cX2_across 57 = .ok (.iload_n 0, 1) := by decide +kernel
theorem dX2_across_58 : decode cX2_across 58 = .ok (.iconst 1, 1) := by decide +kernel
theorem dX2_across_59 : decode cX2_across 59 = .ok (.isub, 1) := by decide +kernel
theorem dX2_across_60 : decode cX2_across 60 = .ok (.goto 5, 3) := by decide +kernel
theorem dX2_across_63 : decode cX2_across 63 = .ok (.bipush (-2), 2) := by decide +kernel
theorem dX2_across_65 : decode cX2_across 65 = .ok (.ireturn, 1) := by decide +kernel
theorem dX2_across_66 : decode cX2_across 66 = .ok (.iload_n 2, 1) := by decide +kernel
theorem dX2_across_67 : decode cX2_across 67 = .ok (.iconst 5, 1) := by decide +kernel
theorem dX2_across_68 : decode cX2_across 68 = .ok (.if_icmp .ge 9, 3) := by decide +kernel
theorem dX2_across_71 : decode cX2_across 71 = .ok (.iload_n 0, 1) := by decide +kernel
theorem dX2_across_72 : decode cX2_across 72 = .ok (.iconst 1, 1) := by decide +kernel
theorem dX2_across_73 : decode cX2_across 73 = .ok (.iadd, 1) := by decide +kernel
theorem dX2_across_74 : decode cX2_across 74 = .ok (.goto 5, 3) := by decide +kernel
theorem dX2_across_77 : decode cX2_across 77 = .ok (.bipush (-2), 2) := by decide +kernel
theorem dX2_across_79 : decode cX2_across 79 = .ok (.ireturn, 1) := by decide +kernel
set_option maxRecDepth 20000 in
theorem ggX2_leadsTo_X8_placeOf : GoodIn wsX2_leadsTo wsX8_placeOf := goodIn_r _ [4] (by decide +kernel) (by decide +kernel)
set_option maxRecDepth 20000 in
theorem gX2_leadsTo_X8_placeOf_n20 : GoodIn wsX2_leadsTo (wsX8_placeOf) := ggX2_leadsTo_X8_placeOf
set_option maxRecDepth 20000 in
theorem ggX2_leadsTo_X3_at : GoodIn wsX2_leadsTo wsX3_at := goodIn_r _ [9, 10, 13] (by decide +kernel) (by decide +kernel)
set_option maxRecDepth 20000 in
theorem gX2_leadsTo_X3_at : GoodIn wsX2_leadsTo (wsV RX2 31 RX3 yX3_at wsX3_at) := goodIn_app (goodIn_of _ (by decide +kernel)) ggX2_leadsTo_X3_at
theorem dX2_leadsTo_0 : decode cX2_leadsTo 0 = .ok (.aload_n 0, 1) := by decide +kernel
theorem dX2_leadsTo_1 : decode cX2_leadsTo 1 = .ok (.getfield 14, 3) := by decide +kernel
theorem dX2_leadsTo_4 : decode cX2_leadsTo 4 = .ok (.iload_n 1, 1) := by decide +kernel
theorem dX2_leadsTo_5 : decode cX2_leadsTo 5 = .ok (.iload_n 2, 1) := by decide +kernel
theorem dX2_leadsTo_6 : decode cX2_leadsTo 6 = .ok (.invokestatic 20, 3) := by decide +kernel
theorem dX2_leadsTo_9 : decode cX2_leadsTo 9 = .ok (.invokevirtual 31, 3) := by decide +kernel
theorem dX2_leadsTo_12 : decode cX2_leadsTo 12 = .ok (.ireturn, 1) := by decide +kernel
set_option maxRecDepth 20000 in
theorem ggX2_isShut_X2_leadsTo : GoodIn wsX2_isShut wsX2_leadsTo := goodIn_r _ [5, 6, 7, 8, 9, 10, 11, 12, 13, 14, 15, 16, 17, 18] (by decide +kernel) (by decide +kernel)
set_option maxRecDepth 20000 in
theorem gX2_isShut_X2_leadsTo : GoodIn wsX2_isShut (wsV RX2 35 RX2 yX2_leadsTo wsX2_leadsTo) := goodIn_app (goodIn_of _ (by decide +kernel)) ggX2_isShut_X2_leadsTo
theorem dX2_isShut_0 : decode cX2_isShut 0 = .ok (.aload_n 0, 1) := by decide +kernel
theorem dX2_isShut_1 : decode cX2_isShut 1 = .ok (.iload_n 1, 1) := by decide +kernel
theorem dX2_isShut_2 : decode cX2_isShut 2 = .ok (.iload_n 2, 1) := by decide +kernel
theorem dX2_isShut_3 : decode cX2_isShut 3 = .ok (.invokevirtual 35, 3) := by decide +kernel
theorem dX2_isShut_6 : decode cX2_isShut 6 = .ok (.bipush (-2), 2) := by decide +kernel
theorem dX2_isShut_8 : decode cX2_isShut 8 = .ok (.if_icmp .ne 7, 3) := by decide +kernel
theorem dX2_isShut_11 : decode cX2_isShut 11 = .ok (.iconst 1, 1) := by decide +kernel
theorem dX2_isShut_12 : decode cX2_isShut 12 = .ok (.goto 4, 3) := by decide +kernel
theorem dX2_isShut_15 : decode cX2_isShut 15 = .ok (.iconst 0, 1) := by decide +kernel
theorem dX2_isShut_16 : decode cX2_isShut 16 = .ok (.ireturn, 1) := by decide +kernel
set_option maxRecDepth 20000 in
theorem ggX2_hasWall_X2_isShut : GoodIn wsX2_hasWall wsX2_isShut := goodIn_r _ [5, 6, 7, 8, 4, 9, 10, 11, 12, 13, 14, 15, 16, 17, 18, 19, 23, 24, 25] (by decide +kernel) (by decide +kernel)
set_option maxRecDepth 20000 in
theorem gX2_hasWall_X2_isShut : GoodIn wsX2_hasWall (wsV RX2 38 RX2 yX2_isShut wsX2_isShut) := goodIn_app (goodIn_of _ (by decide +kernel)) ggX2_hasWall_X2_isShut
set_option maxRecDepth 20000 in
theorem ggX2_hasWall_X2_across : GoodIn wsX2_hasWall wsX2_across := goodIn_r _ [22] (by decide +kernel) (by decide +kernel)
set_option maxRecDepth 20000 in
theorem gX2_hasWall_X2_across : GoodIn wsX2_hasWall (va_wsS RX2 24 yX2_across wsX2_across) := goodIn_app (goodIn_of _ (by decide +kernel)) ggX2_hasWall_X2_across
theorem dX2_hasWall_0 : decode cX2_hasWall 0 = .ok (.aload_n 0, 1) := by decide +kernel
theorem dX2_hasWall_1 : decode cX2_hasWall 1 = .ok (.iload_n 1, 1) := by decide +kernel
theorem dX2_hasWall_2 : decode cX2_hasWall 2 = .ok (.iload_n 2, 1) := by decide +kernel
theorem dX2_hasWall_3 : decode cX2_hasWall 3 = .ok (.invokevirtual 38, 3) := by decide +kernel
theorem dX2_hasWall_6 : decode cX2_hasWall 6 = .ok (.ifCond .eq 17, 3) := by decide +kernel
theorem dX2_hasWall_9 : decode cX2_hasWall 9 = .ok (.iload_n 1, 1) := by decide +kernel
theorem dX2_hasWall_10 : decode cX2_hasWall 10 = .ok (.iload_n 2, 1) := by decide +kernel
theorem dX2_hasWall_11 : decode cX2_hasWall 11 = .ok (.invokestatic 24, 3) := by decide +kernel
theorem dX2_hasWall_14 : decode cX2_hasWall 14 = .ok (.bipush (-2), 2) := by decide +kernel
theorem dX2_hasWall_16 : decode cX2_hasWall 16 = .ok (.if_icmp .eq 7, 3) := by decide +kernel
theorem dX2_hasWall_19 : decode cX2_hasWall 19 = .ok (.iconst 1, 1) := by decide +kernel
theorem dX2_hasWall_20 : decode cX2_hasWall 20 = .ok (.goto 4, 3) := by decide +kernel
theorem dX2_hasWall_23 : decode cX2_hasWall 23 = .ok (.iconst 0, 1) := by decide +kernel
theorem dX2_hasWall_24 : decode cX2_hasWall 24 = .ok (.ireturn, 1) := by decide +kernel
set_option maxRecDepth 20000 in
theorem ggX2_openSides_X2_leadsTo : GoodIn wsX2_openSides wsX2_leadsTo := goodIn_r _ [5, 6, 7, 8, 9, 10, 11, 12, 13, 14, 15, 16, 17, 18] (by decide +kernel) (by decide +kernel)
set_option maxRecDepth 20000 in
theorem gX2_openSides_X2_leadsTo : GoodIn wsX2_openSides (wsV RX2 35 RX2 yX2_leadsTo wsX2_leadsTo) := goodIn_app (goodIn_of _ (by decide +kernel)) ggX2_openSides_X2_leadsTo
theorem dX2_openSides_0 : decode cX2_openSides 0 = .ok (.iconst 0, 1) := by decide +kernel
theorem dX2_openSides_1 : decode cX2_openSides 1 = .ok (.istore_n 2, 1) := by decide +kernel
theorem dX2_openSides_2 : decode cX2_openSides 2 = .ok (.iconst 0, 1) := by decide +kernel
theorem dX2_openSides_3 : decode cX2_openSides 3 = .ok (.istore_n 3, 1) := by decide +kernel
theorem dX2_openSides_4 : decode cX2_openSides 4 = .ok (.iload_n 3, 1) := by decide +kernel
theorem dX2_openSides_5 : decode cX2_openSides 5 = .ok (.iconst 4, 1) := by decide +kernel
theorem dX2_openSides_6 : decode cX2_openSides 6 = .ok (.if_icmp .ge 23, 3) := by decide +kernel
theorem dX2_openSides_9 : decode cX2_openSides 9 = .ok (.aload_n 0, 1) := by decide +kernel
theorem dX2_openSides_10 : decode cX2_openSides 10 = .ok (.iload_n 1, 1) := by decide +kernel
theorem dX2_openSides_11 : decode cX2_openSides 11 = .ok (.iload_n 3, 1) := by decide +kernel
theorem dX2_openSides_12 : decode cX2_openSides 12 = .ok (.invokevirtual 35, 3) := by decide +kernel
theorem dX2_openSides_15 : decode cX2_openSides 15 = .ok (.bipush (-2), 2) := by decide +kernel
theorem dX2_openSides_17 : decode cX2_openSides 17 = .ok (.if_icmp .eq 6, 3) := by decide +kernel
theorem dX2_openSides_20 : decode cX2_openSides 20 = .ok (.iinc 2 1, 3) := by decide +kernel
theorem dX2_openSides_23 : decode cX2_openSides 23 = .ok (.iinc 3 1, 3) := by decide +kernel
theorem dX2_openSides_26 : decode cX2_openSides 26 = .ok (.goto (-22), 3) := by decide +kernel
theorem dX2_openSides_29 : decode cX2_openSides 29 = .ok (.iload_n 2, 1) := by decide +kernel
theorem dX2_openSides_30 : decode cX2_openSides 30 = .ok (.ireturn, 1) := by decide +kernel
set_option maxRecDepth 20000 in
theorem ggX2_build_X2_across : GoodIn wsX2_build wsX2_across := goodIn_r _ [6] (by decide +kernel) (by decide +kernel)
set_option maxRecDepth 20000 in
theorem gX2_build_X2_across : GoodIn wsX2_build (va_wsS RX2 24 yX2_across wsX2_across) := goodIn_app (goodIn_of _ (by decide +kernel)) ggX2_build_X2_across
set_option maxRecDepth 20000 in
theorem ggX2_build_X8_placeOf : GoodIn wsX2_build wsX8_placeOf := goodIn_r _ [9] (by decide +kernel) (by decide +kernel)
set_option maxRecDepth 20000 in
theorem gX2_build_X8_placeOf_n20 : GoodIn wsX2_build (wsX8_placeOf) := ggX2_build_X8_placeOf
set_option maxRecDepth 20000 in
theorem ggX2_build_X3_put : GoodIn wsX2_build wsX3_put := goodIn_r _ [14, 15, 22] (by decide +kernel) (by decide +kernel)
set_option maxRecDepth 20000 in
theorem gX2_build_X3_put : GoodIn wsX2_build (wsV RX2 27 RX3 yX3_put wsX3_put) := goodIn_app (goodIn_of _ (by decide +kernel)) ggX2_build_X3_put
set_option maxRecDepth 20000 in
theorem ggX2_build_X8_isCell : GoodIn wsX2_build wsX8_isCell := goodIn_r _ [17] (by decide +kernel) (by decide +kernel)
set_option maxRecDepth 20000 in
theorem gX2_build_X8_isCell_n42 : GoodIn wsX2_build (wsX8_isCell) := ggX2_build_X8_isCell
set_option maxRecDepth 20000 in
theorem ggX2_build_X8_opposite : GoodIn wsX2_build wsX8_opposite := goodIn_r _ [19] (by decide +kernel) (by decide +kernel)
set_option maxRecDepth 20000 in
theorem gX2_build_X8_opposite_n46 : GoodIn wsX2_build (wsX8_opposite) := ggX2_build_X8_opposite
theorem dX2_build_0 : decode cX2_build 0 = .ok (.iload_n 1, 1) := by decide +kernel
theorem dX2_build_1 : decode cX2_build 1 = .ok (.iload_n 2, 1) := by decide +kernel
theorem dX2_build_2 : decode cX2_build 2 = .ok (.invokestatic 24, 3) := by decide +kernel
theorem dX2_build_5 : decode cX2_build 5 = .ok (.istore_n 3, 1) := by decide +kernel
theorem dX2_build_6 : decode cX2_build 6 = .ok (.aload_n 0, 1) := by decide +kernel
theorem dX2_build_7 : decode cX2_build 7 = .ok (.getfield 14, 3) := by decide +kernel
theorem dX2_build_10 : decode cX2_build 10 = .ok (.iload_n 1, 1) := by decide +kernel
theorem dX2_build_11 : decode cX2_build 11 = .ok (.iload_n 2, 1) := by decide +kernel
theorem dX2_build_12 : decode cX2_build 12 = .ok (.invokestatic 20, 3) := by decide +kernel
theorem dX2_build_15 : decode cX2_build 15 = .ok (.bipush (-2), 2) := by decide +kernel
theorem dX2_build_17 : decode cX2_build 17 = .ok (.invokevirtual 27, 3) := by decide +kernel
theorem dX2_build_20 : decode cX2_build 20 = .ok (.iload_n 3, 1) := by decide +kernel
theorem dX2_build_21 : decode cX2_build 21 = .ok (.invokestatic 42, 3) := by decide +kernel
theorem dX2_build_24 : decode cX2_build 24 = .ok (.ifCond .eq 20, 3) := by decide +kernel
theorem dX2_build_27 : decode cX2_build 27 = .ok (.aload_n 0, 1) := by decide +kernel
theorem dX2_build_28 : decode cX2_build 28 = .ok (.getfield 14, 3) := by decide +kernel
theorem dX2_build_31 : decode cX2_build 31 = .ok (.iload_n 3, 1) := by decide +kernel
theorem dX2_build_32 : decode cX2_build 32 = .ok (.iload_n 2, 1) := by decide +kernel
theorem dX2_build_33 : decode cX2_build 33 = .ok (.invokestatic 46, 3) := by decide +kernel
theorem dX2_build_36 : decode cX2_build 36 = .ok (.invokestatic 20, 3) := by decide +kernel
theorem dX2_build_39 : decode cX2_build 39 = .ok (.bipush (-2), 2) := by decide +kernel
theorem dX2_build_41 : decode cX2_build 41 = .ok (.invokevirtual 27, 3) := by decide +kernel
theorem dX2_build_44 : decode cX2_build 44 = .ok (.aload_n 0, 1) := by decide +kernel
theorem dX2_build_45 : decode cX2_build 45 = .ok (.dup, 1) := by decide +kernel
theorem dX2_build_46 : decode cX2_build 46 = .ok (.getfield 49, 3) := by decide +kernel
theorem dX2_build_49 : decode cX2_build 49 = .ok (.iconst 1, 1) := by decide +kernel
theorem dX2_build_50 : decode cX2_build 50 = .ok (.iadd, 1) := by decide +kernel
theorem dX2_build_51 : decode cX2_build 51 = .ok (.putfield 49, 3) := by decide +kernel
theorem dX2_build_54 : decode cX2_build 54 = .ok (.return_, 1) := by decide +kernel
set_option maxRecDepth 20000 in
theorem ggX2_pullDown_X2_across : GoodIn wsX2_pullDown wsX2_across := goodIn_r _ [6] (by decide +kernel) (by decide +kernel)
set_option maxRecDepth 20000 in
theorem gX2_pullDown_X2_across : GoodIn wsX2_pullDown (va_wsS RX2 24 yX2_across wsX2_across) := goodIn_app (goodIn_of _ (by decide +kernel)) ggX2_pullDown_X2_across
set_option maxRecDepth 20000 in
theorem ggX2_pullDown_X8_placeOf : GoodIn wsX2_pullDown wsX8_placeOf := goodIn_r _ [9] (by decide +kernel) (by decide +kernel)
set_option maxRecDepth 20000 in
theorem gX2_pullDown_X8_placeOf_n20 : GoodIn wsX2_pullDown (wsX8_placeOf) := ggX2_pullDown_X8_placeOf
set_option maxRecDepth 20000 in
theorem ggX2_pullDown_X3_put : GoodIn wsX2_pullDown wsX3_put := goodIn_r _ [14, 15, 22] (by decide +kernel) (by decide +kernel)
set_option maxRecDepth 20000 in
theorem gX2_pullDown_X3_put : GoodIn wsX2_pullDown (wsV RX2 27 RX3 yX3_put wsX3_put) := goodIn_app (goodIn_of _ (by decide +kernel)) ggX2_pullDown_X3_put
set_option maxRecDepth 20000 in
theorem ggX2_pullDown_X8_isCell : GoodIn wsX2_pullDown wsX8_isCell := goodIn_r _ [17] (by decide +kernel) (by decide +kernel)
set_option maxRecDepth 20000 in
theorem gX2_pullDown_X8_isCell_n42 : GoodIn wsX2_pullDown (wsX8_isCell) := ggX2_pullDown_X8_isCell
set_option maxRecDepth 20000 in
theorem ggX2_pullDown_X8_opposite : GoodIn wsX2_pullDown wsX8_opposite := goodIn_r _ [19] (by decide +kernel) (by decide +kernel)
set_option maxRecDepth 20000 in
theorem gX2_pullDown_X8_opposite_n46 : GoodIn wsX2_pullDown (wsX8_opposite) := ggX2_pullDown_X8_opposite
theorem dX2_pullDown_0 : decode cX2_pullDown 0 = .ok (.iload_n 1, 1) := by decide +kernel
theorem dX2_pullDown_1 : decode cX2_pullDown 1 = .ok (.iload_n 2, 1) := by decide +kernel
theorem dX2_pullDown_2 : decode cX2_pullDown 2 = .ok (.invokestatic 24, 3) := by decide +kernel
theorem dX2_pullDown_5 : decode cX2_pullDown 5 = .ok (.istore_n 3, 1) := by decide +kernel
theorem dX2_pullDown_6 : decode cX2_pullDown 6 = .ok (.aload_n 0, 1) := by decide +kernel
theorem dX2_pullDown_7 : decode cX2_pullDown 7 = .ok (.getfield 14, 3) := by decide +kernel
theorem dX2_pullDown_10 : decode cX2_pullDown 10 = .ok (.iload_n 1, 1) := by decide +kernel
theorem dX2_pullDown_11 : decode cX2_pullDown 11 = .ok (.iload_n 2, 1) := by decide +kernel
theorem dX2_pullDown_12 : decode cX2_pullDown 12 = .ok (.invokestatic 20, 3) := by decide +kernel
theorem dX2_pullDown_15 : decode cX2_pullDown 15 = .ok (.iload_n 3, 1) := by decide +kernel
theorem dX2_pullDown_16 : decode cX2_pullDown 16 = .ok (.invokevirtual 27, 3) := by decide +kernel
theorem dX2_pullDown_19 : decode cX2_pullDown 19 = .ok (.iload_n 3, 1) := by decide +kernel
theorem dX2_pullDown_20 : decode cX2_pullDown 20 = .ok (.invokestatic 42, 3) := by decide +kernel
theorem dX2_pullDown_23 : decode cX2_pullDown 23 = .ok (.ifCond .eq 19, 3) := by decide +kernel
theorem dX2_pullDown_26 : decode cX2_pullDown 26 = .ok (.aload_n 0, 1) := by decide +kernel
theorem dX2_pullDown_27 : decode cX2_pullDown 27 = .ok (.getfield 14, 3) := by decide +kernel
theorem dX2_pullDown_30 : decode cX2_pullDown 30 = .ok (.iload_n 3, 1) := by decide +kernel
theorem dX2_pullDown_31 : decode cX2_pullDown 31 = .ok (.iload_n 2, 1) := by decide +kernel
theorem dX2_pullDown_32 : decode cX2_pullDown 32 = .ok (.invokestatic 46, 3) := by decide +kernel
theorem dX2_pullDown_35 : decode cX2_pullDown 35 = .ok (.invokestatic 20, 3) := by decide +kernel
theorem dX2_pullDown_38 : decode cX2_pullDown 38 = .ok (.iload_n 1, 1) := by decide +kernel
theorem dX2_pullDown_39 : decode cX2_pullDown 39 = .ok (.invokevirtual 27, 3) := by decide +kernel
theorem dX2_pullDown_42 : decode cX2_pullDown 42 = .ok (.aload_n 0, 1) := by decide +kernel
theorem dX2_pullDown_43 : decode cX2_pullDown 43 = .ok (.dup, 1) := by decide +kernel
theorem dX2_pullDown_44 : decode cX2_pullDown 44 = .ok (.getfield 49, 3) := by decide +kernel
theorem dX2_pullDown_47 : decode cX2_pullDown 47 = .ok (.iconst 1, 1) := by decide +kernel
theorem dX2_pullDown_48 : decode cX2_pullDown 48 = .ok (.isub, 1) := by decide +kernel
theorem dX2_pullDown_49 : decode cX2_pullDown 49 = .ok (.putfield 49, 3) := by decide +kernel
theorem dX2_pullDown_52 : decode cX2_pullDown 52 = .ok (.return_, 1) := by decide +kernel
theorem dX3_init_0 : decode cX3_init 0 = .ok (.aload_n 0, 1) := by decide +kernel
theorem dX3_init_1 : decode cX3_init 1 = .ok (.invokespecial 1, 3) := by decide +kernel
theorem dX3_init_4 : decode cX3_init 4 = .ok (.aload_n 0, 1) := by decide +kernel
theorem dX3_init_5 : decode cX3_init 5 = .ok (.iload_n 1, 1) := by decide +kernel
theorem dX3_init_6 : decode cX3_init 6 = .ok (.ifCond .ge 7, 3) := by decide +kernel
theorem dX3_init_9 : decode cX3_init 9 = .ok (.iconst 0, 1) := by decide +kernel
theorem dX3_init_10 : decode cX3_init 10 = .ok (.goto 4, 3) := by decide +kernel
theorem dX3_init_13 : decode cX3_init 13 = .ok (.iload_n 1, 1) := by decide +kernel
theorem dX3_init_14 : decode cX3_init 14 = .ok (.newarray .int, 2) := by decide +kernel
theorem dX3_init_16 : decode cX3_init 16 = .ok (.putfield 7, 3) := by decide +kernel
theorem dX3_init_19 : decode cX3_init 19 = .ok (.return_, 1) := by decide +kernel
theorem dX3_at_0 : decode cX3_at 0 = .ok (.iload_n 1, 1) := by decide +kernel
theorem dX3_at_1 : decode cX3_at 1 = .ok (.ifCond .lt 21, 3) := by decide +kernel
theorem dX3_at_4 : decode cX3_at 4 = .ok (.iload_n 1, 1) := by decide +kernel
theorem dX3_at_5 : decode cX3_at 5 = .ok (.aload_n 0, 1) := by decide +kernel
theorem dX3_at_6 : decode cX3_at 6 = .ok (.getfield 7, 3) := by decide +kernel
theorem dX3_at_9 : decode cX3_at 9 = .ok (.arraylength, 1) := by decide +kernel
theorem dX3_at_10 : decode cX3_at 10 = .ok (.if_icmp .ge 12, 3) := by decide +kernel
theorem dX3_at_13 : decode cX3_at 13 = .ok (.aload_n 0, 1) := by decide +kernel
theorem dX3_at_14 : decode cX3_at 14 = .ok (.getfield 7, 3) := by decide +kernel
theorem dX3_at_17 : decode cX3_at 17 = .ok (.iload_n 1, 1) := by decide +kernel
theorem dX3_at_18 : decode cX3_at 18 = .ok (.iaload, 1) := by decide +kernel
theorem dX3_at_19 : decode cX3_at 19 = .ok (.goto 4, 3) := by decide +kernel
theorem dX3_at_22 : decode cX3_at 22 = .ok (.iconst 0, 1) := by decide +kernel
theorem dX3_at_23 : decode cX3_at 23 = .ok (.ireturn, 1) := by decide +kernel
theorem dX3_put_0 : decode cX3_put 0 = .ok (.iload_n 1, 1) := by decide +kernel
theorem dX3_put_1 : decode cX3_put 1 = .ok (.ifCond .lt 19, 3) := by decide +kernel
theorem dX3_put_4 : decode cX3_put 4 = .ok (.iload_n 1, 1) := by decide +kernel
theorem dX3_put_5 : decode cX3_put 5 = .ok (.aload_n 0, 1) := by decide +kernel
theorem dX3_put_6 : decode cX3_put 6 = .ok (.getfield 7, 3) := by decide +kernel
theorem dX3_put_9 : decode cX3_put 9 = .ok (.arraylength, 1) := by decide +kernel
theorem dX3_put_10 : decode cX3_put 10 = .ok (.if_icmp .ge 10, 3) := by decide +kernel
theorem dX3_put_13 : decode cX3_put 13 = .ok (.aload_n 0, 1) := by decide +kernel
theorem dX3_put_14 : decode cX3_put 14 = .ok (.getfield 7, 3) := by decide +kernel
theorem dX3_put_17 : decode cX3_put 17 = .ok (.iload_n 1, 1) := by decide +kernel
theorem dX3_put_18 : decode cX3_put 18 = .ok (.iload_n 2, 1) := by decide +kernel
theorem dX3_put_19 : decode cX3_put 19 = .ok (.iastore, 1) := by decide +kernel
theorem dX3_put_20 : decode cX3_put 20 = .ok (.return_, 1) := by decide +kernel
theorem dX3_add_0 : decode cX3_add 0 = .ok (.iload_n 1, 1) := by decide +kernel
theorem dX3_add_1 : decode cX3_add 1 = .ok (.ifCond .lt 22, 3) := by decide +kernel
theorem dX3_add_4 : decode cX3_add 4 = .ok (.iload_n 1, 1) := by decide +kernel
theorem dX3_add_5 : decode cX3_add 5 = .ok (.aload_n 0, 1) := by decide +kernel
theorem dX3_add_6 : decode cX3_add 6 = .ok (.getfield 7, 3) := by decide +kernel
theorem dX3_add_9 : decode cX3_add 9 = .ok (.arraylength, 1) := by decide +kernel
theorem dX3_add_10 : decode cX3_add 10 = .ok (.if_icmp .ge 13, 3) := by decide +kernel
theorem dX3_add_13 : decode cX3_add 13 = .ok (.aload_n 0, 1) := by decide +kernel
theorem dX3_add_14 : decode cX3_add 14 = .ok (.getfield 7, 3) := by decide +kernel
theorem dX3_add_17 : decode cX3_add 17 = .ok (.iload_n 1, 1) := by decide +kernel
theorem dX3_add_18 : decode cX3_add 18 = .ok (.dup2, 1) := by decide +kernel
theorem dX3_add_19 : decode cX3_add 19 = .ok (.iaload, 1) := by decide +kernel
theorem dX3_add_20 : decode cX3_add 20 = .ok (.iload_n 2, 1) := by decide +kernel
theorem dX3_add_21 : decode cX3_add 21 = .ok (.iadd, 1) := by decide +kernel
theorem dX3_add_22 : decode cX3_add 22 = .ok (.iastore, 1) := by decide +kernel
theorem dX3_add_23 : decode cX3_add 23 = .ok (.return_, 1) := by decide +kernel
theorem dX3_clear_0 : decode cX3_clear 0 = .ok (.iconst 0, 1) := by decide +kernel
theorem dX3_clear_1 : decode cX3_clear 1 = .ok (.istore_n 1, 1) := by decide +kernel
theorem dX3_clear_2 : decode cX3_clear 2 = .ok (.iload_n 1, 1) := by decide +kernel
theorem dX3_clear_3 : decode cX3_clear 3 = .ok (.aload_n 0, 1) := by decide +kernel
theorem dX3_clear_4 : decode cX3_clear 4 = .ok (.getfield 7, 3) := by decide +kernel
theorem dX3_clear_7 : decode cX3_clear 7 = .ok (.arraylength, 1) := by decide +kernel
theorem dX3_clear_8 : decode cX3_clear 8 = .ok (.if_icmp .ge 16, 3) := by decide +kernel
theorem dX3_clear_11 : decode cX3_clear 11 = .ok (.aload_n 0, 1) := by decide +kernel
theorem dX3_clear_12 : decode cX3_clear 12 = .ok (.getfield 7, 3) := by decide +kernel
theorem dX3_clear_15 : decode cX3_clear 15 = .ok (.iload_n 1, 1) := by decide +kernel
theorem dX3_clear_16 : decode cX3_clear 16 = .ok (.iconst 0, 1) := by decide +kernel
theorem dX3_clear_17 : decode cX3_clear 17 = .ok (.iastore, 1) := by decide +kernel
theorem dX3_clear_18 : decode cX3_clear 18 = .ok (.iinc 1 1, 3) := by decide +kernel
theorem dX3_clear_21 : decode cX3_clear 21 = .ok (.goto (-19), 3) := by decide +kernel
theorem dX3_clear_24 : decode cX3_clear 24 = .ok (.return_, 1) := by decide +kernel
set_option maxRecDepth 20000 in
theorem ggX3_copyFrom_X3_at : GoodIn wsX3_copyFrom wsX3_at := goodIn_r _ [6, 1, 7] (by decide +kernel) (by decide +kernel)
set_option maxRecDepth 20000 in
theorem gX3_copyFrom_X3_at : GoodIn wsX3_copyFrom (wsV RX3 13 RX3 yX3_at wsX3_at) := goodIn_app (goodIn_of _ (by decide +kernel)) ggX3_copyFrom_X3_at
theorem dX3_copyFrom_0 : decode cX3_copyFrom 0 = .ok (.iconst 0, 1) := by decide +kernel
theorem dX3_copyFrom_1 : decode cX3_copyFrom 1 = .ok (.istore_n 2, 1) := by decide +kernel
theorem dX3_copyFrom_2 : decode cX3_copyFrom 2 = .ok (.iload_n 2, 1) := by decide +kernel
theorem dX3_copyFrom_3 : decode cX3_copyFrom 3 = .ok (.aload_n 0, 1) := by decide +kernel
theorem dX3_copyFrom_4 : decode cX3_copyFrom 4 = .ok (.getfield 7, 3) := by decide +kernel
theorem dX3_copyFrom_7 : decode cX3_copyFrom 7 = .ok (.arraylength, 1) := by decide +kernel
theorem dX3_copyFrom_8 : decode cX3_copyFrom 8 = .ok (.if_icmp .ge 20, 3) := by decide +kernel
theorem dX3_copyFrom_11 : decode cX3_copyFrom 11 = .ok (.aload_n 0, 1) := by decide +kernel
theorem dX3_copyFrom_12 : decode cX3_copyFrom 12 = .ok (.getfield 7, 3) := by decide +kernel
theorem dX3_copyFrom_15 : decode cX3_copyFrom 15 = .ok (.iload_n 2, 1) := by decide +kernel
theorem dX3_copyFrom_16 : decode cX3_copyFrom 16 = .ok (.aload_n 1, 1) := by decide +kernel
theorem dX3_copyFrom_17 : decode cX3_copyFrom 17 = .ok (.iload_n 2, 1) := by decide +kernel
theorem dX3_copyFrom_18 : decode cX3_copyFrom 18 = .ok (.invokevirtual 13, 3) := by decide +kernel
theorem dX3_copyFrom_21 : decode cX3_copyFrom 21 = .ok (.iastore, 1) := by decide +kernel
theorem dX3_copyFrom_22 : decode cX3_copyFrom 22 = .ok (.iinc 2 1, 3) := by decide +kernel
theorem dX3_copyFrom_25 : decode cX3_copyFrom 25 = .ok (.goto (-23), 3) := by decide +kernel
theorem dX3_copyFrom_28 : decode cX3_copyFrom 28 = .ok (.return_, 1) := by decide +kernel
set_option maxRecDepth 20000 in
theorem ggX3_addAll_X3_at : GoodIn wsX3_addAll wsX3_at := goodIn_r _ [6, 1, 7] (by decide +kernel) (by decide +kernel)
set_option maxRecDepth 20000 in
theorem gX3_addAll_X3_at : GoodIn wsX3_addAll (wsV RX3 13 RX3 yX3_at wsX3_at) := goodIn_app (goodIn_of _ (by decide +kernel)) ggX3_addAll_X3_at
theorem dX3_addAll_0 : decode cX3_addAll 0 = .ok (.iconst 0, 1) := by decide +kernel
theorem dX3_addAll_1 : decode cX3_addAll 1 = .ok (.istore_n 2, 1) := by decide +kernel
theorem dX3_addAll_2 : decode cX3_addAll 2 = .ok (.iload_n 2, 1) := by decide +kernel
theorem dX3_addAll_3 : decode cX3_addAll 3 = .ok (.aload_n 0, 1) := by decide +kernel
theorem dX3_addAll_4 : decode cX3_addAll 4 = .ok (.getfield 7, 3) := by decide +kernel
theorem dX3_addAll_7 : decode cX3_addAll 7 = .ok (.arraylength, 1) := by decide +kernel
theorem dX3_addAll_8 : decode cX3_addAll 8 = .ok (.if_icmp .ge 23, 3) := by decide +kernel
theorem dX3_addAll_11 : decode cX3_addAll 11 = .ok (.aload_n 0, 1) := by decide +kernel
theorem dX3_addAll_12 : decode cX3_addAll 12 = .ok (.getfield 7, 3) := by decide +kernel
theorem dX3_addAll_15 : decode cX3_addAll 15 = .ok (.iload_n 2, 1) := by decide +kernel
theorem dX3_addAll_16 : decode cX3_addAll 16 = .ok (.dup2, 1) := by decide +kernel
theorem dX3_addAll_17 : decode cX3_addAll 17 = .ok (.iaload, 1) := by decide +kernel
theorem dX3_addAll_18 : decode cX3_addAll 18 = .ok (.aload_n 1, 1) := by decide +kernel
theorem dX3_addAll_19 : decode cX3_addAll 19 = .ok (.iload_n 2, 1) := by decide +kernel
theorem dX3_addAll_20 : decode cX3_addAll 20 = .ok (.invokevirtual 13, 3) := by decide +kernel
theorem dX3_addAll_23 : decode cX3_addAll 23 = .ok (.iadd, 1) := by decide +kernel
theorem dX3_addAll_24 : decode cX3_addAll 24 = .ok (.iastore, 1) := by decide +kernel
theorem dX3_addAll_25 : decode cX3_addAll 25 = .ok (.iinc 2 1, 3) := by decide +kernel
theorem dX3_addAll_28 : decode cX3_addAll 28 = .ok (.goto (-26), 3) := by decide +kernel
theorem dX3_addAll_31 : decode cX3_addAll 31 = .ok (.return_, 1) := by decide +kernel
theorem dX3_total_0 : decode cX3_total 0 = .ok (.iconst 0, 1) := by decide +kernel
theorem dX3_total_1 : decode cX3_total 1 = .ok (.istore_n 1, 1) := by decide +kernel
theorem dX3_total_2 : decode cX3_total 2 = .ok (.iconst 0, 1) := by decide +kernel
theorem dX3_total_3 : decode cX3_total 3 = .ok (.istore_n 2, 1) := by decide +kernel
theorem dX3_total_4 : decode cX3_total 4 = .ok (.iload_n 2, 1) := by decide +kernel
theorem dX3_total_5 : decode cX3_total 5 = .ok (.aload_n 0, 1) := by decide +kernel
theorem dX3_total_6 : decode cX3_total 6 = .ok (.getfield 7, 3) := by decide +kernel
theorem dX3_total_9 : decode cX3_total 9 = .ok (.arraylength, 1) := by decide +kernel
theorem dX3_total_10 : decode cX3_total 10 = .ok (.if_icmp .ge 18, 3) := by decide +kernel
theorem dX3_total_13 : decode cX3_total 13 = .ok (.iload_n 1, 1) := by decide +kernel
theorem dX3_total_14 : decode cX3_total 14 = .ok (.aload_n 0, 1) := by decide +kernel
theorem dX3_total_15 : decode cX3_total 15 = .ok (.getfield 7, 3) := by decide +kernel
theorem dX3_total_18 : decode cX3_total 18 = .ok (.iload_n 2, 1) := by decide +kernel
theorem dX3_total_19 : decode cX3_total 19 = .ok (.iaload, 1) := by decide +kernel
theorem dX3_total_20 : decode cX3_total 20 = .ok (.iadd, 1) := by decide +kernel
theorem dX3_total_21 : decode cX3_total 21 = .ok (.istore_n 1, 1) := by decide +kernel
theorem dX3_total_22 : decode cX3_total 22 = .ok (.iinc 2 1, 3) := by decide +kernel
theorem dX3_total_25 : decode cX3_total 25 = .ok (.goto (-21), 3) := by decide +kernel
theorem dX3_total_28 : decode cX3_total 28 = .ok (.iload_n 1, 1) := by decide +kernel
theorem dX3_total_29 : decode cX3_total 29 = .ok (.ireturn, 1) := by decide +kernel
set_option maxRecDepth 20000 in
theorem ggX4_init_X3_init : GoodIn wsX4_init wsX3_init := goodIn_r _ [15, 16, 2, 3, 17, 18, 19] (by decide +kernel) (by decide +kernel)
set_option maxRecDepth 20000 in
theorem gX4_init_X3_init : GoodIn wsX4_init (wsX3_init) := ggX4_init_X3_init
theorem dX4_init_0 : decode cX4_init 0 = .ok (.aload_n 0, 1) := by decide +kernel
theorem dX4_init_1 : decode cX4_init 1 = .ok (.invokespecial 3, 3) := by decide +kernel
theorem dX4_init_4 : decode cX4_init 4 = .ok (.aload_n 0, 1) := by decide +kernel
theorem dX4_init_5 : decode cX4_init 5 = .ok (.new 9, 3) := by decide +kernel
theorem dX4_init_8 : decode cX4_init 8 = .ok (.dup, 1) := by decide +kernel
theorem dX4_init_9 : decode cX4_init 9 = .ok (.bipush 42, 2) := by decide +kernel
theorem dX4_init_11 : decode cX4_init 11 = .ok (.invokespecial 11, 3) := by decide +kernel
theorem dX4_init_14 : decode cX4_init 14 = .ok (.putfield 14, 3) := by decide +kernel
theorem dX4_init_17 : decode cX4_init 17 = .ok (.aload_n 0, 1) := by decide +kernel
theorem dX4_init_18 : decode cX4_init 18 = .ok (.new 9, 3) := by decide +kernel
theorem dX4_init_21 : decode cX4_init 21 = .ok (.dup, 1) := by decide +kernel
theorem dX4_init_22 : decode cX4_init 22 = .ok (.bipush 42, 2) := by decide +kernel
theorem dX4_init_24 : decode cX4_init 24 = .ok (.invokespecial 11, 3) := by decide +kernel
theorem dX4_init_27 : decode cX4_init 27 = .ok (.putfield 20, 3) := by decide +kernel
theorem dX4_init_30 : decode cX4_init 30 = .ok (.aload_n 0, 1) := by decide +kernel
theorem dX4_init_31 : decode cX4_init 31 = .ok (.new 9, 3) := by decide +kernel
theorem dX4_init_34 : decode cX4_init 34 = .ok (.dup, 1) := by decide +kernel
theorem dX4_init_35 : decode cX4_init 35 = .ok (.bipush 42, 2) := by decide +kernel
theorem dX4_init_37 : decode cX4_init 37 = .ok (.invokespecial 11, 3) := by decide +kernel
theorem dX4_init_40 : decode cX4_init 40 = .ok (.putfield 23, 3) := by decide +kernel
theorem dX4_init_43 : decode cX4_init 43 = .ok (.aload_n 0, 1) := by decide +kernel
theorem dX4_init_44 : decode cX4_init 44 = .ok (.new 9, 3) := by decide +kernel
theorem dX4_init_47 : decode cX4_init 47 = .ok (.dup, 1) := by decide +kernel
theorem dX4_init_48 : decode cX4_init 48 = .ok (.sipush 168, 3) := by decide +kernel
theorem dX4_init_51 : decode cX4_init 51 = .ok (.invokespecial 11, 3) := by decide +kernel
theorem dX4_init_54 : decode cX4_init 54 = .ok (.putfield 26, 3) := by decide +kernel
theorem dX4_init_57 : decode cX4_init 57 = .ok (.aload_n 0, 1) := by decide +kernel
theorem dX4_init_58 : decode cX4_init 58 = .ok (.aload_n 1, 1) := by decide +kernel
theorem dX4_init_59 : decode cX4_init 59 = .ok (.putfield 29, 3) := by decide +kernel
theorem dX4_init_62 : decode cX4_init 62 = .ok (.aload_n 0, 1) := by decide +kernel
theorem dX4_init_63 : decode cX4_init 63 = .ok (.aload_n 2, 1) := by decide +kernel
theorem dX4_init_64 : decode cX4_init 64 = .ok (.putfield 33, 3) := by decide +kernel
theorem dX4_init_67 : decode cX4_init 67 = .ok (.return_, 1) := by decide +kernel
set_option maxRecDepth 20000 in
theorem ggX4_bring_X4_carry : GoodIn wsX4_bring wsX4_carry := goodIn_r _ [6, 7, 8, 9, 10, 11, 12, 13, 14, 15, 16, 17, 18, 19, 20, 21, 22, 23] (by decide +kernel) (by decide +kernel)
set_option maxRecDepth 20000 in
theorem gX4_bring_X4_carry : GoodIn wsX4_bring (wsV RX4 37 RX4 yX4_carry wsX4_carry) := goodIn_app (goodIn_of _ (by decide +kernel)) ggX4_bring_X4_carry
theorem dX4_bring_0 : decode cX4_bring 0 = .ok (.aload_n 0, 1) := by decide +kernel
theorem dX4_bring_1 : decode cX4_bring 1 = .ok (.iload_n 1, 1) := by decide +kernel
theorem dX4_bring_2 : decode cX4_bring 2 = .ok (.iload_n 2, 1) := by decide +kernel
theorem dX4_bring_3 : decode cX4_bring 3 = .ok (.invokevirtual 37, 3) := by decide +kernel
theorem dX4_bring_6 : decode cX4_bring 6 = .ok (.aload_n 0, 1) := by decide +kernel
theorem dX4_bring_7 : decode cX4_bring 7 = .ok (.dup, 1) := by decide +kernel
theorem dX4_bring_8 : decode cX4_bring 8 = .ok (.getfield 41, 3) := by decide +kernel
theorem dX4_bring_11 : decode cX4_bring 11 = .ok (.iload_n 2, 1) := by decide +kernel
theorem dX4_bring_12 : decode cX4_bring 12 = .ok (.iadd, 1) := by decide +kernel
theorem dX4_bring_13 : decode cX4_bring 13 = .ok (.putfield 41, 3) := by decide +kernel
theorem dX4_bring_16 : decode cX4_bring 16 = .ok (.return_, 1) := by decide +kernel
set_option maxRecDepth 20000 in
theorem ggX4_carry_X3_add : GoodIn wsX4_carry wsX3_add := goodIn_r _ [7, 8, 17] (by decide +kernel) (by decide +kernel)
set_option maxRecDepth 20000 in
theorem gX4_carry_X3_add : GoodIn wsX4_carry (wsV RX4 45 RX3 yX3_add wsX3_add) := goodIn_app (goodIn_of _ (by decide +kernel)) ggX4_carry_X3_add
theorem dX4_carry_0 : decode cX4_carry 0 = .ok (.aload_n 0, 1) := by decide +kernel
theorem dX4_carry_1 : decode cX4_carry 1 = .ok (.getfield 14, 3) := by decide +kernel
theorem dX4_carry_4 : decode cX4_carry 4 = .ok (.iload_n 1, 1) := by decide +kernel
theorem dX4_carry_5 : decode cX4_carry 5 = .ok (.iload_n 2, 1) := by decide +kernel
theorem dX4_carry_6 : decode cX4_carry 6 = .ok (.invokevirtual 45, 3) := by decide +kernel
theorem dX4_carry_9 : decode cX4_carry 9 = .ok (.aload_n 0, 1) := by decide +kernel
theorem dX4_carry_10 : decode cX4_carry 10 = .ok (.getfield 20, 3) := by decide +kernel
theorem dX4_carry_13 : decode cX4_carry 13 = .ok (.iload_n 1, 1) := by decide +kernel
theorem dX4_carry_14 : decode cX4_carry 14 = .ok (.iload_n 2, 1) := by decide +kernel
theorem dX4_carry_15 : decode cX4_carry 15 = .ok (.invokevirtual 45, 3) := by decide +kernel
theorem dX4_carry_18 : decode cX4_carry 18 = .ok (.return_, 1) := by decide +kernel
set_option maxRecDepth 20000 in
theorem ggX4_settle_X6_start : GoodIn wsX4_settle wsX6_start := goodIn_r _ [9, 10, 11, 12, 13, 14, 15, 16, 17, 18, 19, 20, 21, 22, 23, 24, 25, 130, 131, 132, 133, 134, 135] (by decide +kernel) (by decide +kernel)
set_option maxRecDepth 20000 in
theorem gX4_settle_X6_start : GoodIn wsX4_settle (wsV RX4 48 RX6 yX6_start wsX6_start) := goodIn_app (goodIn_of _ (by decide +kernel)) ggX4_settle_X6_start
set_option maxRecDepth 20000 in
theorem ggX4_settle_X6_settleByQueue : GoodIn wsX4_settle wsX6_settleByQueue := goodIn_r _ [29, 30, 31, 32, 33, 34, 35, 36, 37, 38, 39, 40, 23, 24, 15, 25, 17, 41, 42, 43, 8, 44, 10, 45, 19, 20, 21, 46, 47, 48, 49, 50, 51, 52, 53, 54, 55, 56, 57, 58, 59, 60, 61, 62, 63, 64, 65, 66, 67, 68, 69, 70, 71, 72, 73, 74, 75, 76, 11, 77, 78, 79, 80, 81, 82, 83, 84, 85, 86, 87, 88, 89, 90, 91, 92, 93, 94, 95, 96, 97, 98, 130, 131, 132, 133, 134, 136, 137, 138, 139, 135, 140, 141] (by decide +kernel) (by decide +kernel)
set_option maxRecDepth 20000 in
theorem gX4_settle_X6_settleByQueue : GoodIn wsX4_settle (wsV RX4 54 RX6 yX6_settleByQueue wsX6_settleByQueue) := goodIn_app (goodIn_of _ (by decide +kernel)) ggX4_settle_X6_settleByQueue
set_option maxRecDepth 20000 in
theorem ggX4_settle_X3_copyFrom : GoodIn wsX4_settle wsX3_copyFrom := goodIn_r _ [16, 17, 18, 19, 20, 15, 21, 135] (by decide +kernel) (by decide +kernel)
set_option maxRecDepth 20000 in
theorem gX4_settle_X3_copyFrom : GoodIn wsX4_settle (wsV RX4 58 RX3 yX3_copyFrom wsX3_copyFrom) := goodIn_app (goodIn_of _ (by decide +kernel)) ggX4_settle_X3_copyFrom
set_option maxRecDepth 20000 in
theorem ggX4_settle_X3_addAll : GoodIn wsX4_settle wsX3_addAll := goodIn_r _ [103, 17, 18, 19, 20, 15, 21, 135] (by decide +kernel) (by decide +kernel)
set_option maxRecDepth 20000 in
theorem gX4_settle_X3_addAll : GoodIn wsX4_settle (wsV RX4 64 RX3 yX3_addAll wsX3_addAll) := goodIn_app (goodIn_of _ (by decide +kernel)) ggX4_settle_X3_addAll
set_option maxRecDepth 20000 in
theorem ggX4_settle_X6_lostGrains : GoodIn wsX4_settle wsX6_lostGrains := goodIn_r _ [107, 76, 11, 94, 83, 84, 80, 85, 86, 87, 57, 88, 89, 19, 20, 15, 21, 17, 45, 130, 131, 132, 133, 134, 140, 141, 135] (by decide +kernel) (by decide +kernel)
set_option maxRecDepth 20000 in
theorem gX4_settle_X6_lostGrains : GoodIn wsX4_settle (wsV RX4 70 RX6 yX6_lostGrains wsX6_lostGrains) := goodIn_app (goodIn_of _ (by decide +kernel)) ggX4_settle_X6_lostGrains
set_option maxRecDepth 20000 in
theorem ggX4_settle_X4_countFlows : GoodIn wsX4_settle wsX4_countFlows := goodIn_r _ [112, 113, 114, 1, 115, 83, 84, 80, 85, 86, 87, 57, 88, 89, 19, 20, 15, 21, 17, 116, 117, 91, 92, 93, 122, 123, 124, 125, 126, 127, 128, 129, 130, 131, 132, 133, 134, 140, 141, 135] (by decide +kernel) (by decide +kernel)
set_option maxRecDepth 20000 in
theorem gX4_settle_X4_countFlows : GoodIn wsX4_settle (wsV RX4 74 RX4 yX4_countFlows wsX4_countFlows) := goodIn_app (goodIn_of _ (by decide +kernel)) ggX4_settle_X4_countFlows
set_option maxRecDepth 20000 in
theorem ggX4_settle_X3_total : GoodIn wsX4_settle wsX3_total := goodIn_r _ [121, 17, 135] (by decide +kernel) (by decide +kernel)
set_option maxRecDepth 20000 in
theorem gX4_settle_X3_total : GoodIn wsX4_settle (wsV RX4 77 RX3 yX3_total wsX3_total) := goodIn_app (goodIn_of _ (by decide +kernel)) ggX4_settle_X3_total
theorem dX4_settle_0 : decode cX4_settle 0 = .ok (.aload_n 0, 1) := by decide +kernel
theorem dX4_settle_1 : decode cX4_settle 1 = .ok (.getfield 33, 3) := by decide +kernel
theorem dX4_settle_4 : decode cX4_settle 4 = .ok (.aload_n 0, 1) := by decide +kernel
theorem dX4_settle_5 : decode cX4_settle 5 = .ok (.getfield 14, 3) := by decide +kernel
theorem dX4_settle_8 : decode cX4_settle 8 = .ok (.invokevirtual 48, 3) := by decide +kernel
theorem dX4_settle_11 : decode cX4_settle 11 = .ok (.aload_n 0, 1) := by decide +kernel
theorem dX4_settle_12 : decode cX4_settle 12 = .ok (.getfield 33, 3) := by decide +kernel
theorem dX4_settle_15 : decode cX4_settle 15 = .ok (.invokevirtual 54, 3) := by decide +kernel
theorem dX4_settle_18 : decode cX4_settle 18 = .ok (.aload_n 0, 1) := by decide +kernel
theorem dX4_settle_19 : decode cX4_settle 19 = .ok (.getfield 14, 3) := by decide +kernel
theorem dX4_settle_22 : decode cX4_settle 22 = .ok (.aload_n 0, 1) := by decide +kernel
theorem dX4_settle_23 : decode cX4_settle 23 = .ok (.getfield 33, 3) := by decide +kernel
theorem dX4_settle_26 : decode cX4_settle 26 = .ok (.getfield 57, 3) := by decide +kernel
theorem dX4_settle_29 : decode cX4_settle 29 = .ok (.invokevirtual 58, 3) := by decide +kernel
theorem dX4_settle_32 : decode cX4_settle 32 = .ok (.aload_n 0, 1) := by decide +kernel
theorem dX4_settle_33 : decode cX4_settle 33 = .ok (.getfield 23, 3) := by decide +kernel
theorem dX4_settle_36 : decode cX4_settle 36 = .ok (.aload_n 0, 1) := by decide +kernel
theorem dX4_settle_37 : decode cX4_settle 37 = .ok (.getfield 33, 3) := by decide +kernel
theorem dX4_settle_40 : decode cX4_settle 40 = .ok (.getfield 61, 3) := by decide +kernel
theorem dX4_settle_43 : decode cX4_settle 43 = .ok (.invokevirtual 64, 3) := by decide +kernel
theorem dX4_settle_46 : decode cX4_settle 46 = .ok (.aload_n 0, 1) := by decide +kernel
theorem dX4_settle_47 : decode cX4_settle 47 = .ok (.dup, 1) := by decide +kernel
theorem dX4_settle_48 : decode cX4_settle 48 = .ok (.getfield 67, 3) := by decide +kernel
theorem dX4_settle_51 : decode cX4_settle 51 = .ok (.aload_n 0, 1) := by decide +kernel
theorem dX4_settle_52 : decode cX4_settle 52 = .ok (.getfield 33, 3) := by decide +kernel
theorem dX4_settle_55 : decode cX4_settle 55 = .ok (.invokevirtual 70, 3) := by decide +kernel
theorem dX4_settle_58 : decode cX4_settle 58 = .ok (.iadd, 1) := by decide +kernel
theorem dX4_settle_59 : decode cX4_settle 59 = .ok (.putfield 67, 3) := by decide +kernel
theorem dX4_settle_62 : decode cX4_settle 62 = .ok (.iconst 0, 1) := by decide +kernel
theorem dX4_settle_63 : decode cX4_settle 63 = .ok (.istore_n 1, 1) := by decide +kernel
theorem dX4_settle_64 : decode cX4_settle 64 = .ok (.iload_n 1, 1) := by decide +kernel
theorem dX4_settle_65 : decode cX4_settle 65 = .ok (.bipush 42, 2) := by decide +kernel
theorem dX4_settle_67 : decode cX4_settle 67 = .ok (.if_icmp .ge 14, 3) := by decide +kernel
theorem dX4_settle_70 : decode cX4_settle 70 = .ok (.aload_n 0, 1) := by decide +kernel
theorem dX4_settle_71 : decode cX4_settle 71 = .ok (.iload_n 1, 1) := by decide +kernel
theorem dX4_settle_72 : decode cX4_settle 72 = .ok (.invokevirtual 74, 3) := by decide +kernel
theorem dX4_settle_75 : decode cX4_settle 75 = .ok (.iinc 1 1, 3) := by decide +kernel
theorem dX4_settle_78 : decode cX4_settle 78 = .ok (.goto (-14), 3) := by decide +kernel
theorem dX4_settle_81 : decode cX4_settle 81 = .ok (.aload_n 0, 1) := by decide +kernel
theorem dX4_settle_82 : decode cX4_settle 82 = .ok (.getfield 33, 3) := by decide +kernel
theorem dX4_settle_85 : decode cX4_settle 85 = .ok (.getfield 61, 3) := by decide +kernel
theorem dX4_settle_88 : decode cX4_settle 88 = .ok (.invokevirtual 77, 3) := by decide +kernel
theorem dX4_settle_91 : decode cX4_settle 91 = .ok (.ireturn, 1) := by decide +kernel
set_option maxRecDepth 20000 in
theorem ggX4_countFlows_X2_leadsTo : GoodIn wsX4_countFlows wsX2_leadsTo := goodIn_r _ [8, 9, 10, 11, 12, 13, 14, 15, 16, 17, 18, 37, 38, 39] (by decide +kernel) (by decide +kernel)
set_option maxRecDepth 20000 in
theorem gX4_countFlows_X2_leadsTo : GoodIn wsX4_countFlows (wsV RX4 80 RX2 yX2_leadsTo wsX2_leadsTo) := goodIn_app (goodIn_of _ (by decide +kernel)) ggX4_countFlows_X2_leadsTo
set_option maxRecDepth 20000 in
theorem ggX4_countFlows_X8_placeOf : GoodIn wsX4_countFlows wsX8_placeOf := goodIn_r _ [12] (by decide +kernel) (by decide +kernel)
set_option maxRecDepth 20000 in
theorem gX4_countFlows_X8_placeOf_n86 : GoodIn wsX4_countFlows (wsX8_placeOf) := ggX4_countFlows_X8_placeOf
set_option maxRecDepth 20000 in
theorem ggX4_countFlows_X3_at : GoodIn wsX4_countFlows wsX3_at := goodIn_r _ [17, 18, 39] (by decide +kernel) (by decide +kernel)
set_option maxRecDepth 20000 in
theorem gX4_countFlows_X3_at : GoodIn wsX4_countFlows (wsV RX4 89 RX3 yX3_at wsX3_at) := goodIn_app (goodIn_of _ (by decide +kernel)) ggX4_countFlows_X3_at
set_option maxRecDepth 20000 in
theorem ggX4_countFlows_X3_add : GoodIn wsX4_countFlows wsX3_add := goodIn_r _ [23, 18, 39] (by decide +kernel) (by decide +kernel)
set_option maxRecDepth 20000 in
theorem gX4_countFlows_X3_add : GoodIn wsX4_countFlows (wsV RX4 45 RX3 yX3_add wsX3_add) := goodIn_app (goodIn_of _ (by decide +kernel)) ggX4_countFlows_X3_add
theorem dX4_countFlows_0 : decode cX4_countFlows 0 = .ok (.iconst 0, 1) := by decide +kernel
theorem dX4_countFlows_1 : decode cX4_countFlows 1 = .ok (.istore_n 2, 1) := by decide +kernel
theorem dX4_countFlows_2 : decode cX4_countFlows 2 = .ok (.iload_n 2, 1) := by decide +kernel
theorem dX4_countFlows_3 : decode cX4_countFlows 3 = .ok (.iconst 4, 1) := by decide +kernel
theorem dX4_countFlows_4 : decode cX4_countFlows 4 = .ok (.if_icmp .ge 60, 3) := by decide +kernel
theorem dX4_countFlows_7 : decode cX4_countFlows 7 = .ok (.aload_n 0, 1) := by decide +kernel
theorem dX4_countFlows_8 : decode cX4_countFlows 8 = .ok (.getfield 29, 3) := by decide +kernel
theorem dX4_countFlows_11 : decode cX4_countFlows 11 = .ok (.iload_n 1, 1) := by decide +kernel
theorem dX4_countFlows_12 : decode cX4_countFlows 12 = .ok (.iload_n 2, 1) := by decide +kernel
theorem dX4_countFlows_13 : decode cX4_countFlows 13 = .ok (.invokevirtual 80, 3) := by decide +kernel
theorem dX4_countFlows_16 : decode cX4_countFlows 16 = .ok (.istore_n 3, 1) := by decide +kernel
theorem dX4_countFlows_17 : decode cX4_countFlows 17 = .ok (.iload_n 3, 1) := by decide +kernel
theorem dX4_countFlows_18 : decode cX4_countFlows 18 = .ok (.bipush (-2), 2) := by decide +kernel
theorem dX4_countFlows_20 : decode cX4_countFlows 20 = .ok (.if_icmp .eq 38, 3) := by decide +kernel
theorem dX4_countFlows_23 : decode cX4_countFlows 23 = .ok (.aload_n 0, 1) := by decide +kernel
theorem dX4_countFlows_24 : decode cX4_countFlows 24 = .ok (.getfield 26, 3) := by decide +kernel
theorem dX4_countFlows_27 : decode cX4_countFlows 27 = .ok (.iload_n 1, 1) := by decide +kernel
theorem dX4_countFlows_28 : decode cX4_countFlows 28 = .ok (.iload_n 2, 1) := by decide +kernel
theorem dX4_countFlows_29 : decode cX4_countFlows 29 = .ok (.invokestatic 86, 3) := by decide +kernel
theorem dX4_countFlows_32 : decode cX4_countFlows 32 = .ok (.aload_n 0, 1) := by decide +kernel
theorem dX4_countFlows_33 : decode cX4_countFlows 33 = .ok (.getfield 33, 3) := by decide +kernel
theorem dX4_countFlows_36 : decode cX4_countFlows 36 = .ok (.getfield 61, 3) := by decide +kernel
theorem dX4_countFlows_39 : decode cX4_countFlows 39 = .ok (.iload_n 1, 1) := by decide +kernel
theorem dX4_countFlows_40 : decode cX4_countFlows 40 = .ok (.invokevirtual 89, 3) := by decide +kernel
theorem dX4_countFlows_43 : decode cX4_countFlows 43 = .ok (.aload_n 0, 1) := by decide +kernel
theorem dX4_countFlows_44 : decode cX4_countFlows 44 = .ok (.getfield 33, 3) := by decide +kernel
theorem dX4_countFlows_47 : decode cX4_countFlows 47 = .ok (.getfield 61, 3) := by decide +kernel
theorem dX4_countFlows_50 : decode cX4_countFlows 50 = .ok (.iload_n 3, 1) := by decide +kernel
theorem dX4_countFlows_51 : decode cX4_countFlows 51 = .ok (.invokevirtual 89, 3) := by decide +kernel
theorem dX4_countFlows_54 : decode cX4_countFlows 54 = .ok (.isub, 1) := by decide +kernel
theorem dX4_countFlows_55 : decode cX4_countFlows 55 = .ok (.invokevirtual 45, 3) := by decide +kernel
theorem dX4_countFlows_58 : decode cX4_countFlows 58 = .ok (.iinc 2 1, 3) := by decide +kernel
theorem dX4_countFlows_61 : decode cX4_countFlows 61 = .ok (.goto (-59), 3) := by decide +kernel
theorem dX4_countFlows_64 : decode cX4_countFlows 64 = .ok (.return_, 1) := by decide +kernel
set_option maxRecDepth 20000 in
theorem ggX5_init_X3_init : GoodIn wsX5_init wsX3_init := goodIn_r _ [11, 12, 2, 3, 13, 14, 15] (by decide +kernel) (by decide +kernel)
set_option maxRecDepth 20000 in
theorem gX5_init_X3_init : GoodIn wsX5_init (wsX3_init) := ggX5_init_X3_init
theorem dX5_init_0 : decode cX5_init 0 = .ok (.aload_n 0, 1) := by decide +kernel
theorem dX5_init_1 : decode cX5_init 1 = .ok (.invokespecial 3, 3) := by decide +kernel
theorem dX5_init_4 : decode cX5_init 4 = .ok (.aload_n 0, 1) := by decide +kernel
theorem dX5_init_5 : decode cX5_init 5 = .ok (.new 9, 3) := by decide +kernel
theorem dX5_init_8 : decode cX5_init 8 = .ok (.dup, 1) := by decide +kernel
theorem dX5_init_9 : decode cX5_init 9 = .ok (.bipush 8, 2) := by decide +kernel
theorem dX5_init_11 : decode cX5_init 11 = .ok (.invokespecial 11, 3) := by decide +kernel
theorem dX5_init_14 : decode cX5_init 14 = .ok (.putfield 14, 3) := by decide +kernel
theorem dX5_init_17 : decode cX5_init 17 = .ok (.aload_n 0, 1) := by decide +kernel
theorem dX5_init_18 : decode cX5_init 18 = .ok (.new 9, 3) := by decide +kernel
theorem dX5_init_21 : decode cX5_init 21 = .ok (.dup, 1) := by decide +kernel
theorem dX5_init_22 : decode cX5_init 22 = .ok (.bipush 8, 2) := by decide +kernel
theorem dX5_init_24 : decode cX5_init 24 = .ok (.invokespecial 11, 3) := by decide +kernel
theorem dX5_init_27 : decode cX5_init 27 = .ok (.putfield 20, 3) := by decide +kernel
theorem dX5_init_30 : decode cX5_init 30 = .ok (.return_, 1) := by decide +kernel
set_option maxRecDepth 20000 in
theorem ggX5_append_X3_put : GoodIn wsX5_append wsX3_put := goodIn_r _ [8, 9, 13] (by decide +kernel) (by decide +kernel)
set_option maxRecDepth 20000 in
theorem gX5_append_X3_put : GoodIn wsX5_append (wsV RX5 27 RX3 yX3_put wsX3_put) := goodIn_app (goodIn_of _ (by decide +kernel)) ggX5_append_X3_put
theorem dX5_append_0 : decode cX5_append 0 = .ok (.aload_n 0, 1) := by decide +kernel
theorem dX5_append_1 : decode cX5_append 1 = .ok (.getfield 14, 3) := by decide +kernel
theorem dX5_append_4 : decode cX5_append 4 = .ok (.aload_n 0, 1) := by decide +kernel
theorem dX5_append_5 : decode cX5_append 5 = .ok (.getfield 23, 3) := by decide +kernel
theorem dX5_append_8 : decode cX5_append 8 = .ok (.iload_n 1, 1) := by decide +kernel
theorem dX5_append_9 : decode cX5_append 9 = .ok (.invokevirtual 27, 3) := by decide +kernel
theorem dX5_append_12 : decode cX5_append 12 = .ok (.aload_n 0, 1) := by decide +kernel
theorem dX5_append_13 : decode cX5_append 13 = .ok (.getfield 20, 3) := by decide +kernel
theorem dX5_append_16 : decode cX5_append 16 = .ok (.aload_n 0, 1) := by decide +kernel
theorem dX5_append_17 : decode cX5_append 17 = .ok (.getfield 23, 3) := by decide +kernel
theorem dX5_append_20 : decode cX5_append 20 = .ok (.iload_n 2, 1) := by decide +kernel
theorem dX5_append_21 : decode cX5_append 21 = .ok (.invokevirtual 27, 3) := by decide +kernel
theorem dX5_append_24 : decode cX5_append 24 = .ok (.aload_n 0, 1) := by decide +kernel
theorem dX5_append_25 : decode cX5_append 25 = .ok (.dup, 1) := by decide +kernel
theorem dX5_append_26 : decode cX5_append 26 = .ok (.getfield 23, 3) := by decide +kernel
theorem dX5_append_29 : decode cX5_append 29 = .ok (.iconst 1, 1) := by decide +kernel
theorem dX5_append_30 : decode cX5_append 30 = .ok (.iadd, 1) := by decide +kernel
theorem dX5_append_31 : decode cX5_append 31 = .ok (.putfield 23, 3) := by decide +kernel
theorem dX5_append_34 : decode cX5_append 34 = .ok (.return_, 1) := by decide +kernel
set_option maxRecDepth 20000 in
theorem ggX6_init_X3_init : GoodIn wsX6_init wsX3_init := goodIn_r _ [17, 18, 2, 3, 19, 20, 28] (by decide +kernel) (by decide +kernel)
set_option maxRecDepth 20000 in
theorem gX6_init_X3_init : GoodIn wsX6_init (wsX3_init) := ggX6_init_X3_init
set_option maxRecDepth 20000 in
theorem ggX6_init_X0_init : GoodIn wsX6_init wsX0_init := goodIn_r _ [22, 23, 2, 3, 24, 5, 6, 25, 26, 27, 16, 17, 18, 19, 20, 28, 34, 35, 36, 37] (by decide +kernel) (by decide +kernel)
set_option maxRecDepth 20000 in
theorem gX6_init_X0_init_n25 : GoodIn wsX6_init (wsX0_init) := ggX6_init_X0_init
theorem dX6_init_0 : decode cX6_init 0 = .ok (.aload_n 0, 1) := by decide +kernel
theorem dX6_init_1 : decode cX6_init 1 = .ok (.invokespecial 3, 3) := by decide +kernel
theorem dX6_init_4 : decode cX6_init 4 = .ok (.aload_n 0, 1) := by decide +kernel
theorem dX6_init_5 : decode cX6_init 5 = .ok (.new 9, 3) := by decide +kernel
theorem dX6_init_8 : decode cX6_init 8 = .ok (.dup, 1) := by decide +kernel
theorem dX6_init_9 : decode cX6_init 9 = .ok (.bipush 42, 2) := by decide +kernel
theorem dX6_init_11 : decode cX6_init 11 = .ok (.invokespecial 11, 3) := by decide +kernel
theorem dX6_init_14 : decode cX6_init 14 = .ok (.putfield 14, 3) := by decide +kernel
theorem dX6_init_17 : decode cX6_init 17 = .ok (.aload_n 0, 1) := by decide +kernel
theorem dX6_init_18 : decode cX6_init 18 = .ok (.new 9, 3) := by decide +kernel
theorem dX6_init_21 : decode cX6_init 21 = .ok (.dup, 1) := by decide +kernel
theorem dX6_init_22 : decode cX6_init 22 = .ok (.bipush 42, 2) := by decide +kernel
theorem dX6_init_24 : decode cX6_init 24 = .ok (.invokespecial 11, 3) := by decide +kernel
theorem dX6_init_27 : decode cX6_init 27 = .ok (.putfield 20, 3) := by decide +kernel
theorem dX6_init_30 : decode cX6_init 30 = .ok (.aload_n 0, 1) := by decide +kernel
theorem dX6_init_31 : decode cX6_init 31 = .ok (.new 23, 3) := by decide +kernel
theorem dX6_init_34 : decode cX6_init 34 = .ok (.dup, 1) := by decide +kernel
theorem dX6_init_35 : decode cX6_init 35 = .ok (.invokespecial 25, 3) := by decide +kernel
theorem dX6_init_38 : decode cX6_init 38 = .ok (.putfield 26, 3) := by decide +kernel
theorem dX6_init_41 : decode cX6_init 41 = .ok (.aload_n 0, 1) := by decide +kernel
theorem dX6_init_42 : decode cX6_init 42 = .ok (.aload_n 1, 1) := by decide +kernel
theorem dX6_init_43 : decode cX6_init 43 = .ok (.putfield 30, 3) := by decide +kernel
theorem dX6_init_46 : decode cX6_init 46 = .ok (.aload_n 0, 1) := by decide +kernel
theorem dX6_init_47 : decode cX6_init 47 = .ok (.aload_n 2, 1) := by decide +kernel
theorem dX6_init_48 : decode cX6_init 48 = .ok (.putfield 34, 3) := by decide +kernel
theorem dX6_init_51 : decode cX6_init 51 = .ok (.return_, 1) := by decide +kernel
set_option maxRecDepth 20000 in
theorem ggX6_start_X3_copyFrom : GoodIn wsX6_start wsX3_copyFrom := goodIn_r _ [7, 8, 9, 10, 11, 6, 12, 22] (by decide +kernel) (by decide +kernel)
set_option maxRecDepth 20000 in
theorem gX6_start_X3_copyFrom : GoodIn wsX6_start (wsV RX6 37 RX3 yX3_copyFrom wsX3_copyFrom) := goodIn_app (goodIn_of _ (by decide +kernel)) ggX6_start_X3_copyFrom
set_option maxRecDepth 20000 in
theorem ggX6_start_X3_clear : GoodIn wsX6_start wsX3_clear := goodIn_r _ [16, 8, 22] (by decide +kernel) (by decide +kernel)
set_option maxRecDepth 20000 in
theorem gX6_start_X3_clear : GoodIn wsX6_start (wsV RX6 41 RX3 yX3_clear wsX3_clear) := goodIn_app (goodIn_of _ (by decide +kernel)) ggX6_start_X3_clear
theorem dX6_start_0 : decode cX6_start 0 = .ok (.aload_n 0, 1) := by decide +kernel
theorem dX6_start_1 : decode cX6_start 1 = .ok (.getfield 14, 3) := by decide +kernel
theorem dX6_start_4 : decode cX6_start 4 = .ok (.aload_n 1, 1) := by decide +kernel
theorem dX6_start_5 : decode cX6_start 5 = .ok (.invokevirtual 37, 3) := by decide +kernel
theorem dX6_start_8 : decode cX6_start 8 = .ok (.aload_n 0, 1) := by decide +kernel
theorem dX6_start_9 : decode cX6_start 9 = .ok (.getfield 20, 3) := by decide +kernel
theorem dX6_start_12 : decode cX6_start 12 = .ok (.invokevirtual 41, 3) := by decide +kernel
theorem dX6_start_15 : decode cX6_start 15 = .ok (.return_, 1) := by decide +kernel
set_option maxRecDepth 20000 in
theorem ggX6_settleByQueue_X0_clear : GoodIn wsX6_settleByQueue wsX0_clear := goodIn_r _ [7, 8, 9, 10, 11, 12, 13, 14, 15, 16, 86, 87, 88, 89, 90] (by decide +kernel) (by decide +kernel)
set_option maxRecDepth 20000 in
theorem gX6_settleByQueue_X0_clear : GoodIn wsX6_settleByQueue (wsV RX6 44 RX0 yX0_clear wsX0_clear) := goodIn_app (goodIn_of _ (by decide +kernel)) ggX6_settleByQueue_X0_clear
set_option maxRecDepth 20000 in
theorem ggX6_settleByQueue_X6_isTooHigh : GoodIn wsX6_settleByQueue wsX6_isTooHigh := goodIn_r _ [21, 22, 23, 24, 25, 14, 26, 16, 27, 28, 29, 20, 30, 31, 81, 82, 83, 84, 85, 90] (by decide +kernel) (by decide +kernel)
set_option maxRecDepth 20000 in
theorem gX6_settleByQueue_X6_isTooHigh : GoodIn wsX6_settleByQueue (wsV RX6 45 RX6 yX6_isTooHigh wsX6_isTooHigh) := goodIn_app (goodIn_of _ (by decide +kernel)) ggX6_settleByQueue_X6_isTooHigh
set_option maxRecDepth 20000 in
theorem ggX6_settleByQueue_X0_enter : GoodIn wsX6_settleByQueue wsX0_enter := goodIn_r _ [35, 8, 10, 36, 9, 37, 38, 39, 40, 24, 25, 14, 26, 16, 41, 42, 43, 44, 86, 87, 88, 89, 90] (by decide +kernel) (by decide +kernel)
set_option maxRecDepth 20000 in
theorem gX6_settleByQueue_X0_enter : GoodIn wsX6_settleByQueue (wsV RX6 49 RX0 yX0_enter wsX0_enter) := goodIn_app (goodIn_of _ (by decide +kernel)) ggX6_settleByQueue_X0_enter
set_option maxRecDepth 20000 in
theorem ggX6_settleByQueue_X0_isEmpty : GoodIn wsX6_settleByQueue wsX0_isEmpty := goodIn_r _ [48, 10, 86, 87, 88, 89] (by decide +kernel) (by decide +kernel)
set_option maxRecDepth 20000 in
theorem gX6_settleByQueue_X0_isEmpty : GoodIn wsX6_settleByQueue (wsV RX6 53 RX0 yX0_isEmpty wsX0_isEmpty) := goodIn_app (goodIn_of _ (by decide +kernel)) ggX6_settleByQueue_X0_isEmpty
set_option maxRecDepth 20000 in
theorem ggX6_settleByQueue_X0_leave : GoodIn wsX6_settleByQueue wsX0_leave := goodIn_r _ [52, 36, 9, 8, 10, 40, 24, 25, 14, 26, 16, 41, 42, 43, 44, 86, 87, 88, 89, 90] (by decide +kernel) (by decide +kernel)
set_option maxRecDepth 20000 in
theorem gX6_settleByQueue_X0_leave : GoodIn wsX6_settleByQueue (wsV RX6 57 RX0 yX0_leave wsX0_leave) := goodIn_app (goodIn_of _ (by decide +kernel)) ggX6_settleByQueue_X0_leave
set_option maxRecDepth 20000 in
theorem ggX6_settleByQueue_X6_topple : GoodIn wsX6_settleByQueue wsX6_topple := goodIn_r _ [56, 57, 22, 58, 59, 60, 61, 62, 63, 64, 65, 66, 67, 68, 69, 38, 70, 71, 24, 25, 14, 26, 16, 23, 27, 28, 29, 20, 30, 31, 72, 73, 74, 75, 76, 81, 82, 83, 84, 85, 91, 92, 90] (by decide +kernel) (by decide +kernel)
set_option maxRecDepth 20000 in
theorem gX6_settleByQueue_X6_topple : GoodIn wsX6_settleByQueue (wsV RX6 61 RX6 yX6_topple wsX6_topple) := goodIn_app (goodIn_of _ (by decide +kernel)) ggX6_settleByQueue_X6_topple
set_option maxRecDepth 20000 in
theorem ggX6_settleByQueue_X6_queueBeside : GoodIn wsX6_settleByQueue wsX6_queueBeside := goodIn_r _ [80, 57, 1, 76, 65, 66, 62, 67, 68, 69, 38, 70, 71, 24, 25, 14, 26, 16, 37, 39, 17, 18, 19, 20, 21, 22, 23, 27, 28, 29, 30, 31, 32, 33, 34, 6, 35, 8, 10, 36, 9, 40, 41, 42, 43, 44, 81, 82, 83, 84, 85, 91, 92, 90, 86, 87, 88, 89] (by decide +kernel) (by decide +kernel)
set_option maxRecDepth 20000 in
theorem gX6_settleByQueue_X6_queueBeside : GoodIn wsX6_settleByQueue (wsV RX6 64 RX6 yX6_queueBeside wsX6_queueBeside) := goodIn_app (goodIn_of _ (by decide +kernel)) ggX6_settleByQueue_X6_queueBeside
theorem dX6_settleByQueue_0 : decode cX6_settleByQueue 0 = .ok (.aload_n 0, 1) := by decide +kernel
theorem dX6_settleByQueue_1 : decode cX6_settleByQueue 1 = .ok (.getfield 26, 3) := by decide +kernel
theorem dX6_settleByQueue_4 : decode cX6_settleByQueue 4 = .ok (.invokevirtual 44, 3) := by decide +kernel
theorem dX6_settleByQueue_7 : decode cX6_settleByQueue 7 = .ok (.iconst 0, 1) := by decide +kernel
theorem dX6_settleByQueue_8 : decode cX6_settleByQueue 8 = .ok (.istore_n 1, 1) := by decide +kernel
theorem dX6_settleByQueue_9 : decode cX6_settleByQueue 9 = .ok (.iload_n 1, 1) := by decide +kernel
theorem dX6_settleByQueue_10 : decode cX6_settleByQueue 10 = .ok (.bipush 42, 2) := by decide +kernel
theorem dX6_settleByQueue_12 : decode cX6_settleByQueue 12 = .ok (.if_icmp .ge 25, 3) := by decide +kernel
theorem dX6_settleByQueue_15 : decode cX6_settleByQueue 15 = .ok (.aload_n 0, 1) := by decide +kernel
theorem dX6_settleByQueue_16 : decode cX6_settleByQueue 16 = .ok (.iload_n 1, 1) := by decide +kernel
theorem dX6_settleByQueue_17 : decode cX6_settleByQueue 17 = .ok (.invokevirtual 45, 3) := by decide +kernel
theorem dX6_settleByQueue_20 : decode cX6_settleByQueue 20 = .ok (.ifCond .eq 11, 3) := by decide +kernel
theorem dX6_settleByQueue_23 : decode cX6_settleByQueue 23 = .ok (.aload_n 0, 1) := by decide +kernel
theorem dX6_settleByQueue_24 : decode cX6_settleByQueue 24 = .ok (.getfield 26, 3) := by decide +kernel
theorem dX6_settleByQueue_27 : decode cX6_settleByQueue 27 = .ok (.iload_n 1, 1) := by decide +kernel
theorem dX6_settleByQueue_28 : decode cX6_settleByQueue 28 = .ok (.invokevirtual 49, 3) := by decide +kernel
theorem dX6_settleByQueue_31 : decode cX6_settleByQueue 31 = .ok (.iinc 1 1, 3) := by decide +kernel
theorem dX6_settleByQueue_34 : decode cX6_settleByQueue 34 = .ok (.goto (-25), 3) := by decide +kernel
theorem dX6_settleByQueue_37 : decode cX6_settleByQueue 37 = .ok (.iconst 0, 1) := by decide +kernel
theorem dX6_settleByQueue_38 : decode cX6_settleByQueue 38 = .ok (.istore_n 1, 1) := by decide +kernel
theorem dX6_settleByQueue_39 : decode cX6_settleByQueue 39 = .ok (.iload_n 1, 1) := by decide +kernel
theorem dX6_settleByQueue_40 : decode cX6_settleByQueue 40 = .ok (.ldc 52, 2) := by decide +kernel
theorem dX6_settleByQueue_42 : decode cX6_settleByQueue 42 = .ok (.if_icmp .ge 37, 3) := by decide +kernel
theorem dX6_settleByQueue_45 : decode cX6_settleByQueue 45 = .ok (.aload_n 0, 1) := by decide +kernel
theorem dX6_settleByQueue_46 : decode cX6_settleByQueue 46 = .ok (.getfield 26, 3) := by decide +kernel
theorem dX6_settleByQueue_49 : decode cX6_settleByQueue 49 = .ok (.invokevirtual 53, 3) := by decide +kernel
theorem dX6_settleByQueue_52 : decode cX6_settleByQueue 52 = .ok (.ifCond .ne 27, 3) := by decide +kernel
theorem dX6_settleByQueue_55 : decode cX6_settleByQueue 55 = .ok (.aload_n 0, 1) := by decide +kernel
theorem dX6_settleByQueue_56 : decode cX6_settleByQueue 56 = .ok (.getfield 26, 3) := by decide +kernel
theorem dX6_settleByQueue_59 : decode cX6_settleByQueue 59 = .ok (.invokevirtual 57, 3) := by decide +kernel
theorem dX6_settleByQueue_62 : decode cX6_settleByQueue 62 = .ok (.istore_n 2, 1) := by decide +kernel
theorem dX6_settleByQueue_63 : decode cX6_settleByQueue 63 = .ok (.aload_n 0, 1) := by decide +kernel
theorem dX6_settleByQueue_64 : decode cX6_settleByQueue 64 = .ok (.iload_n 2, 1) := by decide +kernel
theorem dX6_settleByQueue_65 : decode cX6_settleByQueue 65 = .ok (.invokevirtual 61, 3) := by decide +kernel
theorem dX6_settleByQueue_68 : decode cX6_settleByQueue 68 = .ok (.aload_n 0, 1) := by decide +kernel
theorem dX6_settleByQueue_69 : decode cX6_settleByQueue 69 = .ok (.iload_n 2, 1) := by decide +kernel
theorem dX6_settleByQueue_70 : decode cX6_settleByQueue 70 = .ok (.invokevirtual 64, 3) := by decide +kernel
theorem dX6_settleByQueue_73 : decode cX6_settleByQueue 73 = .ok (.iinc 1 1, 3) := by decide +kernel
theorem dX6_settleByQueue_76 : decode cX6_settleByQueue 76 = .ok (.goto (-37), 3) := by decide +kernel
theorem dX6_settleByQueue_79 : decode cX6_settleByQueue 79 = .ok (.return_, 1) := by decide +kernel
set_option maxRecDepth 20000 in
theorem ggX6_queueBeside_X2_leadsTo : GoodIn wsX6_queueBeside wsX2_leadsTo := goodIn_r _ [7, 8, 9, 10, 11, 12, 13, 14, 15, 16, 17, 51, 52, 53] (by decide +kernel) (by decide +kernel)
set_option maxRecDepth 20000 in
theorem gX6_queueBeside_X2_leadsTo : GoodIn wsX6_queueBeside (wsV RX6 67 RX2 yX2_leadsTo wsX2_leadsTo) := goodIn_app (goodIn_of _ (by decide +kernel)) ggX6_queueBeside_X2_leadsTo
set_option maxRecDepth 20000 in
theorem ggX6_queueBeside_X8_isCell : GoodIn wsX6_queueBeside wsX8_isCell := goodIn_r _ [19] (by decide +kernel) (by decide +kernel)
set_option maxRecDepth 20000 in
theorem gX6_queueBeside_X8_isCell_n73 : GoodIn wsX6_queueBeside (wsX8_isCell) := ggX6_queueBeside_X8_isCell
set_option maxRecDepth 20000 in
theorem ggX6_queueBeside_X6_isTooHigh : GoodIn wsX6_queueBeside wsX6_isTooHigh := goodIn_r _ [24, 25, 26, 13, 14, 15, 16, 17, 27, 28, 29, 23, 30, 31, 46, 47, 48, 49, 50, 53] (by decide +kernel) (by decide +kernel)
set_option maxRecDepth 20000 in
theorem gX6_queueBeside_X6_isTooHigh : GoodIn wsX6_queueBeside (wsV RX6 45 RX6 yX6_isTooHigh wsX6_isTooHigh) := goodIn_app (goodIn_of _ (by decide +kernel)) ggX6_queueBeside_X6_isTooHigh
set_option maxRecDepth 20000 in
theorem ggX6_queueBeside_X0_enter : GoodIn wsX6_queueBeside wsX0_enter := goodIn_r _ [36, 37, 38, 39, 40, 18, 10, 19, 41, 13, 14, 15, 16, 17, 42, 43, 44, 45, 54, 55, 56, 57, 53] (by decide +kernel) (by decide +kernel)
set_option maxRecDepth 20000 in
theorem gX6_queueBeside_X0_enter : GoodIn wsX6_queueBeside (wsV RX6 49 RX0 yX0_enter wsX0_enter) := goodIn_app (goodIn_of _ (by decide +kernel)) ggX6_queueBeside_X0_enter
theorem dX6_queueBeside_0 : decode cX6_queueBeside 0 = .ok (.iconst 0, 1) := by decide +kernel
theorem dX6_queueBeside_1 : decode cX6_queueBeside 1 = .ok (.istore_n 2, 1) := by decide +kernel
theorem dX6_queueBeside_2 : decode cX6_queueBeside 2 = .ok (.iload_n 2, 1) := by decide +kernel
theorem dX6_queueBeside_3 : decode cX6_queueBeside 3 = .ok (.iconst 4, 1) := by decide +kernel
theorem dX6_queueBeside_4 : decode cX6_queueBeside 4 = .ok (.if_icmp .ge 42, 3) := by decide +kernel
theorem dX6_queueBeside_7 : decode cX6_queueBeside 7 = .ok (.aload_n 0, 1) := by decide +kernel
theorem dX6_queueBeside_8 : decode cX6_queueBeside 8 = .ok (.getfield 30, 3) := by decide +kernel
theorem dX6_queueBeside_11 : decode cX6_queueBeside 11 = .ok (.iload_n 1, 1) := by decide +kernel
theorem dX6_queueBeside_12 : decode cX6_queueBeside 12 = .ok (.iload_n 2, 1) := by decide +kernel
theorem dX6_queueBeside_13 : decode cX6_queueBeside 13 = .ok (.invokevirtual 67, 3) := by decide +kernel
theorem dX6_queueBeside_16 : decode cX6_queueBeside 16 = .ok (.istore_n 3, 1) := by decide +kernel
theorem dX6_queueBeside_17 : decode cX6_queueBeside 17 = .ok (.iload_n 3, 1) := by decide +kernel
theorem dX6_queueBeside_18 : decode cX6_queueBeside 18 = .ok (.invokestatic 73, 3) := by decide +kernel
theorem dX6_queueBeside_21 : decode cX6_queueBeside 21 = .ok (.ifCond .eq 19, 3) := by decide +kernel
theorem dX6_queueBeside_24 : decode cX6_queueBeside 24 = .ok (.aload_n 0, 1) := by decide +kernel
theorem dX6_queueBeside_25 : decode cX6_queueBeside 25 = .ok (.iload_n 3, 1) := by decide +kernel
theorem dX6_queueBeside_26 : decode cX6_queueBeside 26 = .ok (.invokevirtual 45, 3) := by decide +kernel
theorem dX6_queueBeside_29 : decode cX6_queueBeside 29 = .ok (.ifCond .eq 11, 3) := by decide +kernel
theorem dX6_queueBeside_32 : decode cX6_queueBeside 32 = .ok (.aload_n 0, 1) := by decide +kernel
theorem dX6_queueBeside_33 : decode cX6_queueBeside 33 = .ok (.getfield 26, 3) := by decide +kernel
theorem dX6_queueBeside_36 : decode cX6_queueBeside 36 = .ok (.iload_n 3, 1) := by decide +kernel
theorem dX6_queueBeside_37 : decode cX6_queueBeside 37 = .ok (.invokevirtual 49, 3) := by decide +kernel
theorem dX6_queueBeside_40 : decode cX6_queueBeside 40 = .ok (.iinc 2 1, 3) := by decide +kernel
theorem dX6_queueBeside_43 : decode cX6_queueBeside 43 = .ok (.goto (-41), 3) := by decide +kernel
theorem dX6_queueBeside_46 : decode cX6_queueBeside 46 = .ok (.return_, 1) := by decide +kernel
set_option maxRecDepth 20000 in
theorem ggX6_settleBySweeps_X6_sweepOnce : GoodIn wsX6_settleBySweeps wsX6_sweepOnce := goodIn_r _ [6, 7, 8, 9, 5, 10, 11, 12, 13, 14, 15, 16, 17, 18, 19, 20, 21, 22, 23, 24, 25, 26, 27, 28, 29, 30, 31, 32, 33, 34, 35, 36, 37, 38, 39, 40, 41, 42, 43, 44, 45, 46, 47, 48, 49, 50, 51, 52, 53, 54, 55] (by decide +kernel) (by decide +kernel)
set_option maxRecDepth 20000 in
theorem gX6_settleBySweeps_X6_sweepOnce : GoodIn wsX6_settleBySweeps (wsV RX6 76 RX6 yX6_sweepOnce wsX6_sweepOnce) := goodIn_app (goodIn_of _ (by decide +kernel)) ggX6_settleBySweeps_X6_sweepOnce
theorem dX6_settleBySweeps_0 : decode cX6_settleBySweeps 0 = .ok (.iconst 1, 1) := by decide +kernel
theorem dX6_settleBySweeps_1 : decode cX6_settleBySweeps 1 = .ok (.istore_n 1, 1) := by decide +kernel
theorem dX6_settleBySweeps_2 : decode cX6_settleBySweeps 2 = .ok (.iconst 0, 1) := by decide +kernel
theorem dX6_settleBySweeps_3 : decode cX6_settleBySweeps 3 = .ok (.istore_n 2, 1) := by decide +kernel
theorem dX6_settleBySweeps_4 : decode cX6_settleBySweeps 4 = .ok (.iload_n 2, 1) := by decide +kernel
theorem dX6_settleBySweeps_5 : decode cX6_settleBySweeps 5 = .ok (.ldc 52, 2) := by decide +kernel
theorem dX6_settleBySweeps_7 : decode cX6_settleBySweeps 7 = .ok (.if_icmp .ge 18, 3) := by decide +kernel
theorem dX6_settleBySweeps_10 : decode cX6_settleBySweeps 10 = .ok (.iload_n 1, 1) := by decide +kernel
theorem dX6_settleBySweeps_11 : decode cX6_settleBySweeps 11 = .ok (.ifCond .eq 14, 3) := by decide +kernel
theorem dX6_settleBySweeps_14 : decode cX6_settleBySweeps 14 = .ok (.aload_n 0, 1) := by decide +kernel
theorem dX6_settleBySweeps_15 : decode cX6_settleBySweeps 15 = .ok (.invokevirtual 76, 3) := by decide +kernel
theorem dX6_settleBySweeps_18 : decode cX6_settleBySweeps 18 = .ok (.istore_n 1, 1) := by decide +kernel
theorem dX6_settleBySweeps_19 : decode cX6_settleBySweeps 19 = .ok (.iinc 2 1, 3) := by decide +kernel
theorem dX6_settleBySweeps_22 : decode cX6_settleBySweeps 22 = .ok (.goto (-18), 3) := by decide +kernel
theorem dX6_settleBySweeps_25 : decode cX6_settleBySweeps 25 = .ok (.return_, 1) := by decide +kernel
set_option maxRecDepth 20000 in
theorem ggX6_sweepOnce_X6_isTooHigh : GoodIn wsX6_sweepOnce wsX6_isTooHigh := goodIn_r _ [5, 6, 7, 8, 9, 10, 11, 12, 13, 14, 15, 4, 16, 17, 43, 44, 45, 46, 47, 48] (by decide +kernel) (by decide +kernel)
set_option maxRecDepth 20000 in
theorem gX6_sweepOnce_X6_isTooHigh : GoodIn wsX6_sweepOnce (wsV RX6 45 RX6 yX6_isTooHigh wsX6_isTooHigh) := goodIn_app (goodIn_of _ (by decide +kernel)) ggX6_sweepOnce_X6_isTooHigh
set_option maxRecDepth 20000 in
theorem ggX6_sweepOnce_X6_topple : GoodIn wsX6_sweepOnce wsX6_topple := goodIn_r _ [21, 22, 6, 23, 24, 25, 26, 27, 28, 29, 30, 31, 32, 33, 34, 35, 36, 37, 8, 9, 10, 11, 12, 7, 13, 14, 15, 4, 16, 17, 38, 39, 40, 41, 42, 43, 44, 45, 46, 47, 49, 50, 48] (by decide +kernel) (by decide +kernel)
set_option maxRecDepth 20000 in
theorem gX6_sweepOnce_X6_topple : GoodIn wsX6_sweepOnce (wsV RX6 61 RX6 yX6_topple wsX6_topple) := goodIn_app (goodIn_of _ (by decide +kernel)) ggX6_sweepOnce_X6_topple
theorem dX6_sweepOnce_0 : decode cX6_sweepOnce 0 = .ok (.iconst 0, 1) := by decide +kernel
theorem dX6_sweepOnce_1 : decode cX6_sweepOnce 1 = .ok (.istore_n 1, 1) := by decide +kernel
theorem dX6_sweepOnce_2 : decode cX6_sweepOnce 2 = .ok (.bipush 41, 2) := by decide +kernel
theorem dX6_sweepOnce_4 : decode cX6_sweepOnce 4 = .ok (.istore_n 2, 1) := by decide +kernel
theorem dX6_sweepOnce_5 : decode cX6_sweepOnce 5 = .ok (.iload_n 2, 1) := by decide +kernel
theorem dX6_sweepOnce_6 : decode cX6_sweepOnce 6 = .ok (.ifCond .lt 24, 3) := by decide +kernel
theorem dX6_sweepOnce_9 : decode cX6_sweepOnce 9 = .ok (.aload_n 0, 1) := by decide +kernel
theorem dX6_sweepOnce_10 : decode cX6_sweepOnce 10 = .ok (.iload_n 2, 1) := by decide +kernel
theorem dX6_sweepOnce_11 : decode cX6_sweepOnce 11 = .ok (.invokevirtual 45, 3) := by decide +kernel
theorem dX6_sweepOnce_14 : decode cX6_sweepOnce 14 = .ok (.ifCond .eq 10, 3) := by decide +kernel
theorem dX6_sweepOnce_17 : decode cX6_sweepOnce 17 = .ok (.aload_n 0, 1) := by decide +kernel
theorem dX6_sweepOnce_18 : decode cX6_sweepOnce 18 = .ok (.iload_n 2, 1) := by decide +kernel
theorem dX6_sweepOnce_19 : decode cX6_sweepOnce 19 = .ok (.invokevirtual 61, 3) := by decide +kernel
theorem dX6_sweepOnce_22 : decode cX6_sweepOnce 22 = .ok (.iconst 1, 1) := by decide +kernel
theorem dX6_sweepOnce_23 : decode cX6_sweepOnce 23 = .ok (.istore_n 1, 1) := by decide +kernel
theorem dX6_sweepOnce_24 : decode cX6_sweepOnce 24 = .ok (.iinc 2 (-1), 3) := by decide +kernel
theorem dX6_sweepOnce_27 : decode cX6_sweepOnce 27 = .ok (.goto (-22), 3) := by decide +kernel
theorem dX6_sweepOnce_30 : decode cX6_sweepOnce 30 = .ok (.iload_n 1, 1) := by decide +kernel
theorem dX6_sweepOnce_31 : decode cX6_sweepOnce 31 = .ok (.ireturn, 1) := by decide +kernel
set_option maxRecDepth 20000 in
theorem ggX6_limitOf_X3_at : GoodIn wsX6_limitOf wsX3_at := goodIn_r _ [6, 7, 13] (by decide +kernel) (by decide +kernel)
set_option maxRecDepth 20000 in
theorem gX6_limitOf_X3_at : GoodIn wsX6_limitOf (wsV RX6 79 RX3 yX3_at wsX3_at) := goodIn_app (goodIn_of _ (by decide +kernel)) ggX6_limitOf_X3_at
theorem dX6_limitOf_0 : decode cX6_limitOf 0 = .ok (.aload_n 0, 1) := by decide +kernel
theorem dX6_limitOf_1 : decode cX6_limitOf 1 = .ok (.getfield 34, 3) := by decide +kernel
theorem dX6_limitOf_4 : decode cX6_limitOf 4 = .ok (.iload_n 1, 1) := by decide +kernel
theorem dX6_limitOf_5 : decode cX6_limitOf 5 = .ok (.invokevirtual 79, 3) := by decide +kernel
theorem dX6_limitOf_8 : decode cX6_limitOf 8 = .ok (.ifCond .ne 7, 3) := by decide +kernel
theorem dX6_limitOf_11 : decode cX6_limitOf 11 = .ok (.iconst 4, 1) := by decide +kernel
theorem dX6_limitOf_12 : decode cX6_limitOf 12 = .ok (.goto 5, 3) := by decide +kernel
theorem dX6_limitOf_15 : decode cX6_limitOf 15 = .ok (.bipush 8, 2) := by decide +kernel
theorem dX6_limitOf_17 : decode cX6_limitOf 17 = .ok (.ireturn, 1) := by decide +kernel
set_option maxRecDepth 20000 in
theorem ggX6_isTooHigh_X3_at : GoodIn wsX6_isTooHigh wsX3_at := goodIn_r _ [6, 7, 19] (by decide +kernel) (by decide +kernel)
set_option maxRecDepth 20000 in
theorem gX6_isTooHigh_X3_at : GoodIn wsX6_isTooHigh (wsV RX6 79 RX3 yX3_at wsX3_at) := goodIn_app (goodIn_of _ (by decide +kernel)) ggX6_isTooHigh_X3_at
set_option maxRecDepth 20000 in
theorem ggX6_isTooHigh_X6_limitOf : GoodIn wsX6_isTooHigh wsX6_limitOf := goodIn_r _ [12, 13, 2, 3, 4, 5, 6, 7, 14, 15, 16, 17, 18, 19] (by decide +kernel) (by decide +kernel)
set_option maxRecDepth 20000 in
theorem gX6_isTooHigh_X6_limitOf : GoodIn wsX6_isTooHigh (wsV RX6 83 RX6 yX6_limitOf wsX6_limitOf) := goodIn_app (goodIn_of _ (by decide +kernel)) ggX6_isTooHigh_X6_limitOf
theorem dX6_isTooHigh_0 : decode cX6_isTooHigh 0 = .ok (.aload_n 0, 1) := by decide +kernel
theorem dX6_isTooHigh_1 : decode cX6_isTooHigh 1 = .ok (.getfield 14, 3) := by decide +kernel
theorem dX6_isTooHigh_4 : decode cX6_isTooHigh 4 = .ok (.iload_n 1, 1) := by decide +kernel
theorem dX6_isTooHigh_5 : decode cX6_isTooHigh 5 = .ok (.invokevirtual 79, 3) := by decide +kernel
theorem dX6_isTooHigh_8 : decode cX6_isTooHigh 8 = .ok (.aload_n 0, 1) := by decide +kernel
theorem dX6_isTooHigh_9 : decode cX6_isTooHigh 9 = .ok (.iload_n 1, 1) := by decide +kernel
theorem dX6_isTooHigh_10 : decode cX6_isTooHigh 10 = .ok (.invokevirtual 83, 3) := by decide +kernel
theorem dX6_isTooHigh_13 : decode cX6_isTooHigh 13 = .ok (.if_icmp .lt 7, 3) := by decide +kernel
theorem dX6_isTooHigh_16 : decode cX6_isTooHigh 16 = .ok (.iconst 1, 1) := by decide +kernel
theorem dX6_isTooHigh_17 : decode cX6_isTooHigh 17 = .ok (.goto 4, 3) := by decide +kernel
theorem dX6_isTooHigh_20 : decode cX6_isTooHigh 20 = .ok (.iconst 0, 1) := by decide +kernel
theorem dX6_isTooHigh_21 : decode cX6_isTooHigh 21 = .ok (.ireturn, 1) := by decide +kernel
set_option maxRecDepth 20000 in
theorem ggX6_topple_X2_openSides : GoodIn wsX6_topple wsX2_openSides := goodIn_r _ [8, 9, 10, 11, 7, 12, 13, 14, 15, 16, 17, 18, 19, 20, 21, 22, 40, 41, 42] (by decide +kernel) (by decide +kernel)
set_option maxRecDepth 20000 in
theorem gX6_topple_X2_openSides : GoodIn wsX6_topple (wsV RX6 86 RX2 yX2_openSides wsX2_openSides) := goodIn_app (goodIn_of _ (by decide +kernel)) ggX6_topple_X2_openSides
set_option maxRecDepth 20000 in
theorem ggX6_topple_X3_at : GoodIn wsX6_topple wsX3_at := goodIn_r _ [21, 22, 42] (by decide +kernel) (by decide +kernel)
set_option maxRecDepth 20000 in
theorem gX6_topple_X3_at : GoodIn wsX6_topple (wsV RX6 79 RX3 yX3_at wsX3_at) := goodIn_app (goodIn_of _ (by decide +kernel)) ggX6_topple_X3_at
set_option maxRecDepth 20000 in
theorem ggX6_topple_X6_limitOf : GoodIn wsX6_topple wsX6_limitOf := goodIn_r _ [28, 29, 23, 18, 19, 20, 21, 22, 35, 36, 37, 38, 39, 42] (by decide +kernel) (by decide +kernel)
set_option maxRecDepth 20000 in
theorem gX6_topple_X6_limitOf : GoodIn wsX6_topple (wsV RX6 83 RX6 yX6_limitOf wsX6_limitOf) := goodIn_app (goodIn_of _ (by decide +kernel)) ggX6_topple_X6_limitOf
set_option maxRecDepth 20000 in
theorem ggX6_topple_X3_add : GoodIn wsX6_topple wsX3_add := goodIn_r _ [33, 22, 42] (by decide +kernel) (by decide +kernel)
set_option maxRecDepth 20000 in
theorem gX6_topple_X3_add : GoodIn wsX6_topple (wsV RX6 89 RX3 yX3_add wsX3_add) := goodIn_app (goodIn_of _ (by decide +kernel)) ggX6_topple_X3_add
set_option maxRecDepth 20000 in
theorem ggX6_topple_X2_leadsTo : GoodIn wsX6_topple wsX2_leadsTo := goodIn_r _ [12, 13, 14, 15, 16, 17, 18, 19, 20, 21, 22, 40, 41, 42] (by decide +kernel) (by decide +kernel)
set_option maxRecDepth 20000 in
theorem gX6_topple_X2_leadsTo : GoodIn wsX6_topple (wsV RX6 67 RX2 yX2_leadsTo wsX2_leadsTo) := goodIn_app (goodIn_of _ (by decide +kernel)) ggX6_topple_X2_leadsTo
theorem dX6_topple_0 : decode cX6_topple 0 = .ok (.aload_n 0, 1) := by decide +kernel
theorem dX6_topple_1 : decode cX6_topple 1 = .ok (.getfield 30, 3) := by decide +kernel
theorem dX6_topple_4 : decode cX6_topple 4 = .ok (.iload_n 1, 1) := by decide +kernel
theorem dX6_topple_5 : decode cX6_topple 5 = .ok (.invokevirtual 86, 3) := by decide +kernel
theorem dX6_topple_8 : decode cX6_topple 8 = .ok (.istore_n 2, 1) := by decide +kernel
theorem dX6_topple_9 : decode cX6_topple 9 = .ok (.iload_n 2, 1) := by decide +kernel
theorem dX6_topple_10 : decode cX6_topple 10 = .ok (.ifCond .gt 4, 3) := by decide +kernel
theorem dX6_topple_13 : decode cX6_topple 13 = .ok (.return_, 1) := by decide +kernel
theorem dX6_topple_14 : decode cX6_topple 14 = .ok (.aload_n 0, 1) := by decide +kernel
theorem dX6_topple_15 : decode cX6_topple 15 = .ok (.getfield 14, 3) := by decide +kernel
theorem dX6_topple_18 : decode cX6_topple 18 = .ok (.iload_n 1, 1) := by decide +kernel
theorem dX6_topple_19 : decode cX6_topple 19 = .ok (.invokevirtual 79, 3) := by decide +kernel
theorem dX6_topple_22 : decode cX6_topple 22 = .ok (.aload_n 0, 1) := by decide +kernel
theorem dX6_topple_23 : decode cX6_topple 23 = .ok (.iload_n 1, 1) := by decide +kernel
theorem dX6_topple_24 : decode cX6_topple 24 = .ok (.invokevirtual 83, 3) := by decide +kernel
theorem dX6_topple_27 : decode cX6_topple 27 = .ok (.isub, 1) := by decide +kernel
theorem dX6_topple_28 : decode cX6_topple 28 = .ok (.iload_n 2, 1) := by decide +kernel
theorem dX6_topple_29 : decode cX6_topple 29 = .ok (.idiv, 1) := by decide +kernel
theorem dX6_topple_30 : decode cX6_topple 30 = .ok (.iconst 1, 1) := by decide +kernel
theorem dX6_topple_31 : decode cX6_topple 31 = .ok (.iadd, 1) := by decide +kernel
theorem dX6_topple_32 : decode cX6_topple 32 = .ok (.istore_n 3, 1) := by decide +kernel
theorem dX6_topple_33 : decode cX6_topple 33 = .ok (.aload_n 0, 1) := by decide +kernel
theorem dX6_topple_34 : decode cX6_topple 34 = .ok (.getfield 20, 3) := by decide +kernel
theorem dX6_topple_37 : decode cX6_topple 37 = .ok (.iload_n 1, 1) := by decide +kernel
theorem dX6_topple_38 : decode cX6_topple 38 = .ok (.iload_n 3, 1) := by decide +kernel
theorem dX6_topple_39 : decode cX6_topple 39 = .ok (.invokevirtual 89, 3) := by decide +kernel
theorem dX6_topple_42 : decode cX6_topple 42 = .ok (.aload_n 0, 1) := by decide +kernel
theorem dX6_topple_43 : decode cX6_topple 43 = .ok (.getfield 14, 3) := by decide +kernel
theorem dX6_topple_46 : decode cX6_topple 46 = .ok (.iload_n 1, 1) := by decide +kernel
theorem dX6_topple_47 : decode cX6_topple 47 = .ok (.iload_n 3, 1) := by decide +kernel
theorem dX6_topple_48 : decode cX6_topple 48 = .ok (.ineg, 1) := by decide +kernel
theorem dX6_topple_49 : decode cX6_topple 49 = .ok (.iload_n 2, 1) := by decide +kernel
theorem dX6_topple_50 : decode cX6_topple 50 = .ok (.imul, 1) := by decide +kernel
theorem dX6_topple_51 : decode cX6_topple 51 = .ok (.invokevirtual 89, 3) := by decide +kernel
theorem dX6_topple_54 : decode cX6_topple 54 = .ok (.iconst 0, 1) := by decide +kernel
theorem dX6_topple_55 : decode cX6_topple 55 = .ok (.istore 4, 2) := by decide +kernel
theorem dX6_topple_57 : decode cX6_topple 57 = .ok (.iload 4, 2) := by decide +kernel
theorem dX6_topple_59 : decode cX6_topple 59 = .ok (.iconst 4, 1) := by decide +kernel
theorem dX6_topple_60 : decode cX6_topple 60 = .ok (.if_icmp .ge 27, 3) := by decide +kernel
theorem dX6_topple_63 : decode cX6_topple 63 = .ok (.aload_n 0, 1) := by decide +kernel
theorem dX6_topple_64 : decode cX6_topple 64 = .ok (.getfield 14, 3) := by decide +kernel
theorem dX6_topple_67 : decode cX6_topple 67 = .ok (.aload_n 0, 1) := by decide +kernel
theorem dX6_topple_68 : decode cX6_topple 68 = .ok (.getfield 30, 3) := by decide +kernel
theorem dX6_topple_71 : decode cX6_topple 71 = .ok (.iload_n 1, 1) := by decide +kernel
theorem dX6_topple_72 : decode cX6_topple 72 = .ok (.iload 4, 2) := by decide +kernel
theorem dX6_topple_74 : decode cX6_topple 74 = .ok (.invokevirtual 67, 3) := by decide +kernel
theorem dX6_topple_77 : decode cX6_topple 77 = .ok (.iload_n 3, 1) := by decide +kernel
theorem dX6_topple_78 : decode cX6_topple 78 = .ok (.invokevirtual 89, 3) := by decide +kernel
theorem dX6_topple_81 : decode cX6_topple 81 = .ok (.iinc 4 1, 3) := by decide +kernel
theorem dX6_topple_84 : decode cX6_topple 84 = .ok (.goto (-27), 3) := by decide +kernel
theorem dX6_topple_87 : decode cX6_topple 87 = .ok (.return_, 1) := by decide +kernel
set_option maxRecDepth 20000 in
theorem ggX6_lostGrains_X2_leadsTo : GoodIn wsX6_lostGrains wsX2_leadsTo := goodIn_r _ [7, 8, 9, 10, 11, 12, 13, 14, 15, 16, 17, 24, 25, 26] (by decide +kernel) (by decide +kernel)
set_option maxRecDepth 20000 in
theorem gX6_lostGrains_X2_leadsTo : GoodIn wsX6_lostGrains (wsV RX6 67 RX2 yX2_leadsTo wsX2_leadsTo) := goodIn_app (goodIn_of _ (by decide +kernel)) ggX6_lostGrains_X2_leadsTo
set_option maxRecDepth 20000 in
theorem ggX6_lostGrains_X3_at : GoodIn wsX6_lostGrains wsX3_at := goodIn_r _ [16, 17, 26] (by decide +kernel) (by decide +kernel)
set_option maxRecDepth 20000 in
theorem gX6_lostGrains_X3_at : GoodIn wsX6_lostGrains (wsV RX6 79 RX3 yX3_at wsX3_at) := goodIn_app (goodIn_of _ (by decide +kernel)) ggX6_lostGrains_X3_at
theorem dX6_lostGrains_0 : decode cX6_lostGrains 0 = .ok (.iconst 0, 1) := by decide +kernel
theorem dX6_lostGrains_1 : decode cX6_lostGrains 1 = .ok (.istore_n 1, 1) := by decide +kernel
theorem dX6_lostGrains_2 : decode cX6_lostGrains 2 = .ok (.iconst 0, 1) := by decide +kernel
theorem dX6_lostGrains_3 : decode cX6_lostGrains 3 = .ok (.istore_n 2, 1) := by decide +kernel
theorem dX6_lostGrains_4 : decode cX6_lostGrains 4 = .ok (.iload_n 2, 1) := by decide +kernel
theorem dX6_lostGrains_5 : decode cX6_lostGrains 5 = .ok (.bipush 6, 2) := by decide +kernel
theorem dX6_lostGrains_7 : decode cX6_lostGrains 7 = .ok (.if_icmp .ge 33, 3) := by decide +kernel
theorem dX6_lostGrains_10 : decode cX6_lostGrains 10 = .ok (.aload_n 0, 1) := by decide +kernel
theorem dX6_lostGrains_11 : decode cX6_lostGrains 11 = .ok (.getfield 30, 3) := by decide +kernel
theorem dX6_lostGrains_14 : decode cX6_lostGrains 14 = .ok (.iload_n 2, 1) := by decide +kernel
theorem dX6_lostGrains_15 : decode cX6_lostGrains 15 = .ok (.iconst 0, 1) := by decide +kernel
theorem dX6_lostGrains_16 : decode cX6_lostGrains 16 = .ok (.invokevirtual 67, 3) := by decide +kernel
theorem dX6_lostGrains_19 : decode cX6_lostGrains 19 = .ok (.iconst (-1), 1) := by decide +kernel
theorem dX6_lostGrains_20 : decode cX6_lostGrains 20 = .ok (.if_icmp .ne 14, 3) := by decide +kernel
theorem dX6_lostGrains_23 : decode cX6_lostGrains 23 = .ok (.iload_n 1, 1) := by decide +kernel
theorem dX6_lostGrains_24 : decode cX6_lostGrains 24 = .ok (.aload_n 0, 1) := by decide +kernel
theorem dX6_lostGrains_25 : decode cX6_lostGrains 25 = .ok (.getfield 20, 3) := by decide +kernel
theorem dX6_lostGrains_28 : decode cX6_lostGrains 28 = .ok (.iload_n 2, 1) := by decide +kernel
theorem dX6_lostGrains_29 : decode cX6_lostGrains 29 = .ok (.invokevirtual 79, 3) := by decide +kernel
theorem dX6_lostGrains_32 : decode cX6_lostGrains 32 = .ok (.iadd, 1) := by decide +kernel
theorem dX6_lostGrains_33 : decode cX6_lostGrains 33 = .ok (.istore_n 1, 1) := by decide +kernel
theorem dX6_lostGrains_34 : decode cX6_lostGrains 34 = .ok (.iinc 2 1, 3) := by decide +kernel
theorem dX6_lostGrains_37 : decode cX6_lostGrains 37 = .ok (.goto (-33), 3) := by decide +kernel
theorem dX6_lostGrains_40 : decode cX6_lostGrains 40 = .ok (.iload_n 1, 1) := by decide +kernel
theorem dX6_lostGrains_41 : decode cX6_lostGrains 41 = .ok (.ireturn, 1) := by decide +kernel
theorem dX7_init_0 : decode cX7_init 0 = .ok (.aload_n 0, 1) := by decide +kernel
theorem dX7_init_1 : decode cX7_init 1 = .ok (.invokespecial 3, 3) := by decide +kernel
theorem dX7_init_4 : decode cX7_init 4 = .ok (.aload_n 0, 1) := by decide +kernel
theorem dX7_init_5 : decode cX7_init 5 = .ok (.aload_n 1, 1) := by decide +kernel
theorem dX7_init_6 : decode cX7_init 6 = .ok (.putfield 9, 3) := by decide +kernel
theorem dX7_init_9 : decode cX7_init 9 = .ok (.aload_n 0, 1) := by decide +kernel
theorem dX7_init_10 : decode cX7_init 10 = .ok (.aload_n 2, 1) := by decide +kernel
theorem dX7_init_11 : decode cX7_init 11 = .ok (.putfield 15, 3) := by decide +kernel
theorem dX7_init_14 : decode cX7_init 14 = .ok (.aload_n 0, 1) := by decide +kernel
theorem dX7_init_15 : decode cX7_init 15 = .ok (.aload_n 3, 1) := by decide +kernel
theorem dX7_init_16 : decode cX7_init 16 = .ok (.putfield 19, 3) := by decide +kernel
theorem dX7_init_19 : decode cX7_init 19 = .ok (.return_, 1) := by decide +kernel
set_option maxRecDepth 20000 in
theorem ggX7_come_X7_runUp : GoodIn wsX7_come wsX7_runUp := goodIn_r _ [9, 10, 1, 4, 11, 12, 13, 14, 15, 16, 17, 18, 19, 20, 21, 22, 23, 24, 25, 26, 27, 28, 29, 30, 31, 32, 33, 34, 35, 8, 36, 37, 3, 38, 39, 40, 41, 2, 42, 43, 44, 45, 46, 47, 48, 49, 50, 51, 52, 57, 58, 59, 60, 61, 62, 63, 64, 65, 66, 67, 68, 69, 70, 71, 72, 73] (by decide +kernel) (by decide +kernel)
set_option maxRecDepth 20000 in
theorem gX7_come_X7_runUp : GoodIn wsX7_come (wsV RX7 33 RX7 yX7_runUp wsX7_runUp) := goodIn_app (goodIn_of _ (by decide +kernel)) ggX7_come_X7_runUp
set_option maxRecDepth 20000 in
theorem ggX7_come_X8_numberOf : GoodIn wsX7_come wsX8_numberOf := goodIn_r _ [13] (by decide +kernel) (by decide +kernel)
set_option maxRecDepth 20000 in
theorem gX7_come_X8_numberOf_n37 : GoodIn wsX7_come (wsX8_numberOf) := ggX7_come_X8_numberOf
set_option maxRecDepth 20000 in
theorem ggX7_come_X7_takeFrom : GoodIn wsX7_come wsX7_takeFrom := goodIn_r _ [41, 37, 4, 2, 32, 27, 28, 29, 30, 31, 42, 43, 44, 45, 46, 47, 48, 49, 50, 51, 52, 57, 58, 59, 60, 61, 62, 63, 64, 65, 66, 67, 68, 69, 70, 73] (by decide +kernel) (by decide +kernel)
set_option maxRecDepth 20000 in
theorem gX7_come_X7_takeFrom : GoodIn wsX7_come (wsV RX7 41 RX7 yX7_takeFrom wsX7_takeFrom) := goodIn_app (goodIn_of _ (by decide +kernel)) ggX7_come_X7_takeFrom
set_option maxRecDepth 20000 in
theorem ggX7_come_X7_dropInto : GoodIn wsX7_come wsX7_dropInto := goodIn_r _ [56, 2, 4, 42, 43, 44, 45, 46, 47, 48, 49, 50, 51, 29, 52, 31, 57, 58, 59, 60, 61, 62, 63, 64, 65, 66, 67, 68, 69, 70, 73] (by decide +kernel) (by decide +kernel)
set_option maxRecDepth 20000 in
theorem gX7_come_X7_dropInto : GoodIn wsX7_come (wsV RX7 45 RX7 yX7_dropInto wsX7_dropInto) := goodIn_app (goodIn_of _ (by decide +kernel)) ggX7_come_X7_dropInto
theorem dX7_come_0 : decode cX7_come 0 = .ok (.aload_n 0, 1) := by decide +kernel
theorem dX7_come_1 : decode cX7_come 1 = .ok (.iload_n 2, 1) := by decide +kernel
theorem dX7_come_2 : decode cX7_come 2 = .ok (.putfield 23, 3) := by decide +kernel
theorem dX7_come_5 : decode cX7_come 5 = .ok (.aload_n 0, 1) := by decide +kernel
theorem dX7_come_6 : decode cX7_come 6 = .ok (.iconst 0, 1) := by decide +kernel
theorem dX7_come_7 : decode cX7_come 7 = .ok (.putfield 27, 3) := by decide +kernel
theorem dX7_come_10 : decode cX7_come 10 = .ok (.aload_n 0, 1) := by decide +kernel
theorem dX7_come_11 : decode cX7_come 11 = .ok (.iconst 0, 1) := by decide +kernel
theorem dX7_come_12 : decode cX7_come 12 = .ok (.putfield 30, 3) := by decide +kernel
theorem dX7_come_15 : decode cX7_come 15 = .ok (.aload_n 0, 1) := by decide +kernel
theorem dX7_come_16 : decode cX7_come 16 = .ok (.iload_n 1, 1) := by decide +kernel
theorem dX7_come_17 : decode cX7_come 17 = .ok (.invokevirtual 33, 3) := by decide +kernel
theorem dX7_come_20 : decode cX7_come 20 = .ok (.istore_n 3, 1) := by decide +kernel
theorem dX7_come_21 : decode cX7_come 21 = .ok (.aload_n 0, 1) := by decide +kernel
theorem dX7_come_22 : decode cX7_come 22 = .ok (.getfield 30, 3) := by decide +kernel
theorem dX7_come_25 : decode cX7_come 25 = .ok (.iconst 1, 1) := by decide +kernel
theorem dX7_come_26 : decode cX7_come 26 = .ok (.isub, 1) := by decide +kernel
theorem dX7_come_27 : decode cX7_come 27 = .ok (.istore 4, 2) := by decide +kernel
theorem dX7_come_29 : decode cX7_come 29 = .ok (.iload 4, 2) := by decide +kernel
theorem dX7_come_31 : decode cX7_come 31 = .ok (.ifCond .lt 36, 3) := by decide +kernel
theorem dX7_come_34 : decode cX7_come 34 = .ok (.iload_n 1, 1) := by decide +kernel
theorem dX7_come_35 : decode cX7_come 35 = .ok (.iload 4, 2) := by decide +kernel
theorem dX7_come_37 : decode cX7_come 37 = .ok (.invokestatic 37, 3) := by decide +kernel
theorem dX7_come_40 : decode cX7_come 40 = .ok (.istore 5, 2) := by decide +kernel
theorem dX7_come_42 : decode cX7_come 42 = .ok (.iload_n 3, 1) := by decide +kernel
theorem dX7_come_43 : decode cX7_come 43 = .ok (.ifCond .eq 12, 3) := by decide +kernel
theorem dX7_come_46 : decode cX7_come 46 = .ok (.aload_n 0, 1) := by decide +kernel
theorem dX7_come_47 : decode cX7_come 47 = .ok (.iload 5, 2) := by decide +kernel
theorem dX7_come_49 : decode cX7_come 49 = .ok (.invokevirtual 41, 3) := by decide +kernel
theorem dX7_come_52 : decode cX7_come 52 = .ok (.goto 9, 3) := by decide +kernel
theorem dX7_come_55 : decode cX7_come 55 = .ok (.aload_n 0, 1) := by decide +kernel
theorem dX7_come_56 : decode cX7_come 56 = .ok (.iload 5, 2) := by decide +kernel
theorem dX7_come_58 : decode cX7_come 58 = .ok (.invokevirtual 45, 3) := by decide +kernel
theorem dX7_come_61 : decode cX7_come 61 = .ok (.iinc 4 (-1), 3) := by decide +kernel
theorem dX7_come_64 : decode cX7_come 64 = .ok (.goto (-35), 3) := by decide +kernel
theorem dX7_come_67 : decode cX7_come 67 = .ok (.aload_n 0, 1) := by decide +kernel
theorem dX7_come_68 : decode cX7_come 68 = .ok (.getfield 19, 3) := by decide +kernel
theorem dX7_come_71 : decode cX7_come 71 = .ok (.dup, 1) := by decide +kernel
theorem dX7_come_72 : decode cX7_come 72 = .ok (.getfield 48, 3) := by decide +kernel
theorem dX7_come_75 : decode cX7_come 75 = .ok (.aload_n 0, 1) := by decide +kernel
theorem dX7_come_76 : decode cX7_come 76 = .ok (.getfield 27, 3) := by decide +kernel
theorem dX7_come_79 : decode cX7_come 79 = .ok (.iadd, 1) := by decide +kernel
theorem dX7_come_80 : decode cX7_come 80 = .ok (.putfield 48, 3) := by decide +kernel
theorem dX7_come_83 : decode cX7_come 83 = .ok (.aload_n 0, 1) := by decide +kernel
theorem dX7_come_84 : decode cX7_come 84 = .ok (.getfield 30, 3) := by decide +kernel
theorem dX7_come_87 : decode cX7_come 87 = .ok (.ireturn, 1) := by decide +kernel
set_option maxRecDepth 20000 in
theorem ggX7_runUp_X8_numberOf : GoodIn wsX7_runUp wsX8_numberOf := goodIn_r _ [6] (by decide +kernel) (by decide +kernel)
set_option maxRecDepth 20000 in
theorem gX7_runUp_X8_numberOf_n37 : GoodIn wsX7_runUp (wsX8_numberOf) := ggX7_runUp_X8_numberOf
set_option maxRecDepth 20000 in
theorem ggX7_runUp_X2_isShut : GoodIn wsX7_runUp wsX2_isShut := goodIn_r _ [11, 12, 13, 14, 10, 15, 16, 17, 5, 18, 19, 20, 21, 22, 23, 24, 63, 64, 65] (by decide +kernel) (by decide +kernel)
set_option maxRecDepth 20000 in
theorem gX7_runUp_X2_isShut : GoodIn wsX7_runUp (wsV RX7 53 RX2 yX2_isShut wsX2_isShut) := goodIn_app (goodIn_of _ (by decide +kernel)) ggX7_runUp_X2_isShut
set_option maxRecDepth 20000 in
theorem ggX7_runUp_X3_at : GoodIn wsX7_runUp wsX3_at := goodIn_r _ [23, 24, 65] (by decide +kernel) (by decide +kernel)
set_option maxRecDepth 20000 in
theorem gX7_runUp_X3_at : GoodIn wsX7_runUp (wsV RX7 62 RX3 yX3_at wsX3_at) := goodIn_app (goodIn_of _ (by decide +kernel)) ggX7_runUp_X3_at
set_option maxRecDepth 20000 in
theorem ggX7_runUp_X7_enter : GoodIn wsX7_runUp wsX7_enter := goodIn_r _ [30, 2, 3, 31, 32, 25, 20, 21, 22, 23, 24, 33, 34, 35, 29, 36, 37, 38, 39, 40, 41, 42, 43, 44, 45, 46, 47, 48, 49, 50, 51, 52, 53, 54, 55, 56, 57, 58, 59, 60, 61, 62, 65] (by decide +kernel) (by decide +kernel)
set_option maxRecDepth 20000 in
theorem gX7_runUp_X7_enter : GoodIn wsX7_runUp (wsV RX7 68 RX7 yX7_enter wsX7_enter) := goodIn_app (goodIn_of _ (by decide +kernel)) ggX7_runUp_X7_enter
theorem dX7_runUp_0 : decode cX7_runUp 0 = .ok (.iconst 0, 1) := by decide +kernel
theorem dX7_runUp_1 : decode cX7_runUp 1 = .ok (.istore_n 2, 1) := by decide +kernel
theorem dX7_runUp_2 : decode cX7_runUp 2 = .ok (.iload_n 2, 1) := by decide +kernel
theorem dX7_runUp_3 : decode cX7_runUp 3 = .ok (.bipush 7, 2) := by decide +kernel
theorem dX7_runUp_5 : decode cX7_runUp 5 = .ok (.if_icmp .ge 54, 3) := by decide +kernel
theorem dX7_runUp_8 : decode cX7_runUp 8 = .ok (.iload_n 1, 1) := by decide +kernel
theorem dX7_runUp_9 : decode cX7_runUp 9 = .ok (.iload_n 2, 1) := by decide +kernel
theorem dX7_runUp_10 : decode cX7_runUp 10 = .ok (.invokestatic 37, 3) := by decide +kernel
theorem dX7_runUp_13 : decode cX7_runUp 13 = .ok (.istore_n 3, 1) := by decide +kernel
theorem dX7_runUp_14 : decode cX7_runUp 14 = .ok (.aload_n 0, 1) := by decide +kernel
theorem dX7_runUp_15 : decode cX7_runUp 15 = .ok (.getfield 9, 3) := by decide +kernel
theorem dX7_runUp_18 : decode cX7_runUp 18 = .ok (.iload_n 3, 1) := by decide +kernel
theorem dX7_runUp_19 : decode cX7_runUp 19 = .ok (.iconst 0, 1) := by decide +kernel
theorem dX7_runUp_20 : decode cX7_runUp 20 = .ok (.invokevirtual 53, 3) := by decide +kernel
theorem dX7_runUp_23 : decode cX7_runUp 23 = .ok (.ifCond .eq 5, 3) := by decide +kernel
theorem dX7_runUp_26 : decode cX7_runUp 26 = .ok (.iconst 1, 1) := by decide +kernel
theorem dX7_runUp_27 : decode cX7_runUp 27 = .ok (.ireturn, 1) := by decide +kernel
theorem dX7_runUp_28 : decode cX7_runUp 28 = .ok (.aload_n 0, 1) := by decide +kernel
theorem dX7_runUp_29 : decode cX7_runUp 29 = .ok (.getfield 23, 3) := by decide +kernel
theorem dX7_runUp_32 : decode cX7_runUp 32 = .ok (.aload_n 0, 1) := by decide +kernel
theorem dX7_runUp_33 : decode cX7_runUp 33 = .ok (.getfield 19, 3) := by decide +kernel
theorem dX7_runUp_36 : decode cX7_runUp 36 = .ok (.getfield 59, 3) := by decide +kernel
theorem dX7_runUp_39 : decode cX7_runUp 39 = .ok (.iload_n 3, 1) := by decide +kernel
theorem dX7_runUp_40 : decode cX7_runUp 40 = .ok (.invokevirtual 62, 3) := by decide +kernel
theorem dX7_runUp_43 : decode cX7_runUp 43 = .ok (.if_icmp .gt 5, 3) := by decide +kernel
theorem dX7_runUp_46 : decode cX7_runUp 46 = .ok (.iconst 0, 1) := by decide +kernel
theorem dX7_runUp_47 : decode cX7_runUp 47 = .ok (.ireturn, 1) := by decide +kernel
theorem dX7_runUp_48 : decode cX7_runUp 48 = .ok (.aload_n 0, 1) := by decide +kernel
theorem dX7_runUp_49 : decode cX7_runUp 49 = .ok (.iload_n 3, 1) := by decide +kernel
theorem dX7_runUp_50 : decode cX7_runUp 50 = .ok (.invokevirtual 68, 3) := by decide +kernel
theorem dX7_runUp_53 : decode cX7_runUp 53 = .ok (.iinc 2 1, 3) := by decide +kernel
theorem dX7_runUp_56 : decode cX7_runUp 56 = .ok (.goto (-54), 3) := by decide +kernel
theorem dX7_runUp_59 : decode cX7_runUp 59 = .ok (.iconst 1, 1) := by decide +kernel
theorem dX7_runUp_60 : decode cX7_runUp 60 = .ok (.ireturn, 1) := by decide +kernel
set_option maxRecDepth 20000 in
theorem ggX7_enter_X3_at : GoodIn wsX7_enter wsX3_at := goodIn_r _ [9, 10, 42] (by decide +kernel) (by decide +kernel)
set_option maxRecDepth 20000 in
theorem gX7_enter_X3_at : GoodIn wsX7_enter (wsV RX7 62 RX3 yX3_at wsX3_at) := goodIn_app (goodIn_of _ (by decide +kernel)) ggX7_enter_X3_at
set_option maxRecDepth 20000 in
theorem ggX7_enter_X7_takeFrom : GoodIn wsX7_enter wsX7_takeFrom := goodIn_r _ [15, 3, 2, 16, 5, 6, 7, 8, 9, 10, 17, 18, 19, 20, 21, 22, 23, 24, 25, 26, 27, 28, 29, 30, 31, 32, 33, 34, 35, 36, 37, 38, 39, 40, 41, 42] (by decide +kernel) (by decide +kernel)
set_option maxRecDepth 20000 in
theorem gX7_enter_X7_takeFrom : GoodIn wsX7_enter (wsV RX7 41 RX7 yX7_takeFrom wsX7_takeFrom) := goodIn_app (goodIn_of _ (by decide +kernel)) ggX7_enter_X7_takeFrom
theorem dX7_enter_0 : decode cX7_enter 0 = .ok (.aload_n 0, 1) := by decide +kernel
theorem dX7_enter_1 : decode cX7_enter 1 = .ok (.dup, 1) := by decide +kernel
theorem dX7_enter_2 : decode cX7_enter 2 = .ok (.getfield 23, 3) := by decide +kernel
theorem dX7_enter_5 : decode cX7_enter 5 = .ok (.iconst 1, 1) := by decide +kernel
theorem dX7_enter_6 : decode cX7_enter 6 = .ok (.aload_n 0, 1) := by decide +kernel
theorem dX7_enter_7 : decode cX7_enter 7 = .ok (.getfield 19, 3) := by decide +kernel
theorem dX7_enter_10 : decode cX7_enter 10 = .ok (.getfield 59, 3) := by decide +kernel
theorem dX7_enter_13 : decode cX7_enter 13 = .ok (.iload_n 1, 1) := by decide +kernel
theorem dX7_enter_14 : decode cX7_enter 14 = .ok (.invokevirtual 62, 3) := by decide +kernel
theorem dX7_enter_17 : decode cX7_enter 17 = .ok (.iconst 4, 1) := by decide +kernel
theorem dX7_enter_18 : decode cX7_enter 18 = .ok (.idiv, 1) := by decide +kernel
theorem dX7_enter_19 : decode cX7_enter 19 = .ok (.iadd, 1) := by decide +kernel
theorem dX7_enter_20 : decode cX7_enter 20 = .ok (.isub, 1) := by decide +kernel
theorem dX7_enter_21 : decode cX7_enter 21 = .ok (.putfield 23, 3) := by decide +kernel
theorem dX7_enter_24 : decode cX7_enter 24 = .ok (.aload_n 0, 1) := by decide +kernel
theorem dX7_enter_25 : decode cX7_enter 25 = .ok (.getfield 15, 3) := by decide +kernel
theorem dX7_enter_28 : decode cX7_enter 28 = .ok (.iload_n 1, 1) := by decide +kernel
theorem dX7_enter_29 : decode cX7_enter 29 = .ok (.invokevirtual 62, 3) := by decide +kernel
theorem dX7_enter_32 : decode cX7_enter 32 = .ok (.ifCond .eq 13, 3) := by decide +kernel
theorem dX7_enter_35 : decode cX7_enter 35 = .ok (.aload_n 0, 1) := by decide +kernel
theorem dX7_enter_36 : decode cX7_enter 36 = .ok (.dup, 1) := by decide +kernel
theorem dX7_enter_37 : decode cX7_enter 37 = .ok (.getfield 23, 3) := by decide +kernel
theorem dX7_enter_40 : decode cX7_enter 40 = .ok (.iconst 1, 1) := by decide +kernel
theorem dX7_enter_41 : decode cX7_enter 41 = .ok (.isub, 1) := by decide +kernel
theorem dX7_enter_42 : decode cX7_enter 42 = .ok (.putfield 23, 3) := by decide +kernel
theorem dX7_enter_45 : decode cX7_enter 45 = .ok (.aload_n 0, 1) := by decide +kernel
theorem dX7_enter_46 : decode cX7_enter 46 = .ok (.iload_n 1, 1) := by decide +kernel
theorem dX7_enter_47 : decode cX7_enter 47 = .ok (.invokevirtual 41, 3) := by decide +kernel
theorem dX7_enter_50 : decode cX7_enter 50 = .ok (.aload_n 0, 1) := by decide +kernel
theorem dX7_enter_51 : decode cX7_enter 51 = .ok (.dup, 1) := by decide +kernel
theorem dX7_enter_52 : decode cX7_enter 52 = .ok (.getfield 30, 3) := by decide +kernel
theorem dX7_enter_55 : decode cX7_enter 55 = .ok (.iconst 1, 1) := by decide +kernel
theorem dX7_enter_56 : decode cX7_enter 56 = .ok (.iadd, 1) := by decide +kernel
theorem dX7_enter_57 : decode cX7_enter 57 = .ok (.putfield 30, 3) := by decide +kernel
theorem dX7_enter_60 : decode cX7_enter 60 = .ok (.return_, 1) := by decide +kernel
set_option maxRecDepth 20000 in
theorem ggX7_takeFrom_X3_at : GoodIn wsX7_takeFrom wsX3_at := goodIn_r _ [8, 9, 35] (by decide +kernel) (by decide +kernel)
set_option maxRecDepth 20000 in
theorem gX7_takeFrom_X3_at : GoodIn wsX7_takeFrom (wsV RX7 62 RX3 yX3_at wsX3_at) := goodIn_app (goodIn_of _ (by decide +kernel)) ggX7_takeFrom_X3_at
set_option maxRecDepth 20000 in
theorem ggX7_takeFrom_X4_carry : GoodIn wsX7_takeFrom wsX4_carry := goodIn_r _ [14, 15, 16, 17, 18, 19, 7, 20, 9, 27, 28, 29, 30, 31, 32, 33, 34, 35] (by decide +kernel) (by decide +kernel)
set_option maxRecDepth 20000 in
theorem gX7_takeFrom_X4_carry : GoodIn wsX7_takeFrom (wsV RX7 71 RX4 yX4_carry wsX4_carry) := goodIn_app (goodIn_of _ (by decide +kernel)) ggX7_takeFrom_X4_carry
theorem dX7_takeFrom_0 : decode cX7_takeFrom 0 = .ok (.aload_n 0, 1) := by decide +kernel
theorem dX7_takeFrom_1 : decode cX7_takeFrom 1 = .ok (.getfield 15, 3) := by decide +kernel
theorem dX7_takeFrom_4 : decode cX7_takeFrom 4 = .ok (.iload_n 1, 1) := by decide +kernel
theorem dX7_takeFrom_5 : decode cX7_takeFrom 5 = .ok (.invokevirtual 62, 3) := by decide +kernel
theorem dX7_takeFrom_8 : decode cX7_takeFrom 8 = .ok (.ifCond .ne 36, 3) := by decide +kernel
theorem dX7_takeFrom_11 : decode cX7_takeFrom 11 = .ok (.aload_n 0, 1) := by decide +kernel
theorem dX7_takeFrom_12 : decode cX7_takeFrom 12 = .ok (.getfield 19, 3) := by decide +kernel
theorem dX7_takeFrom_15 : decode cX7_takeFrom 15 = .ok (.getfield 59, 3) := by decide +kernel
theorem dX7_takeFrom_18 : decode cX7_takeFrom 18 = .ok (.iload_n 1, 1) := by decide +kernel
theorem dX7_takeFrom_19 : decode cX7_takeFrom 19 = .ok (.invokevirtual 62, 3) := by decide +kernel
theorem dX7_takeFrom_22 : decode cX7_takeFrom 22 = .ok (.ifCond .le 22, 3) := by decide +kernel
theorem dX7_takeFrom_25 : decode cX7_takeFrom 25 = .ok (.aload_n 0, 1) := by decide +kernel
theorem dX7_takeFrom_26 : decode cX7_takeFrom 26 = .ok (.getfield 19, 3) := by decide +kernel
theorem dX7_takeFrom_29 : decode cX7_takeFrom 29 = .ok (.iload_n 1, 1) := by decide +kernel
theorem dX7_takeFrom_30 : decode cX7_takeFrom 30 = .ok (.iconst (-1), 1) := by decide +kernel
theorem dX7_takeFrom_31 : decode cX7_takeFrom 31 = .ok (.invokevirtual 71, 3) := by decide +kernel
theorem dX7_takeFrom_34 : decode cX7_takeFrom 34 = .ok (.aload_n 0, 1) := by decide +kernel
theorem dX7_takeFrom_35 : decode cX7_takeFrom 35 = .ok (.dup, 1) := by decide +kernel
theorem dX7_takeFrom_36 : decode cX7_takeFrom 36 = .ok (.getfield 27, 3) := by decide +kernel
theorem dX7_takeFrom_39 : decode cX7_takeFrom 39 = .ok (.iconst 1, 1) := by decide +kernel
theorem dX7_takeFrom_40 : decode cX7_takeFrom 40 = .ok (.iadd, 1) := by decide +kernel
theorem dX7_takeFrom_41 : decode cX7_takeFrom 41 = .ok (.putfield 27, 3) := by decide +kernel
theorem dX7_takeFrom_44 : decode cX7_takeFrom 44 = .ok (.return_, 1) := by decide +kernel
set_option maxRecDepth 20000 in
theorem ggX7_dropInto_X4_carry : GoodIn wsX7_dropInto wsX4_carry := goodIn_r _ [7, 8, 9, 10, 11, 12, 13, 14, 15, 22, 23, 24, 25, 26, 27, 28, 29, 30] (by decide +kernel) (by decide +kernel)
set_option maxRecDepth 20000 in
theorem gX7_dropInto_X4_carry : GoodIn wsX7_dropInto (wsV RX7 71 RX4 yX4_carry wsX4_carry) := goodIn_app (goodIn_of _ (by decide +kernel)) ggX7_dropInto_X4_carry
theorem dX7_dropInto_0 : decode cX7_dropInto 0 = .ok (.aload_n 0, 1) := by decide +kernel
theorem dX7_dropInto_1 : decode cX7_dropInto 1 = .ok (.getfield 27, 3) := by decide +kernel
theorem dX7_dropInto_4 : decode cX7_dropInto 4 = .ok (.ifCond .le 22, 3) := by decide +kernel
theorem dX7_dropInto_7 : decode cX7_dropInto 7 = .ok (.aload_n 0, 1) := by decide +kernel
theorem dX7_dropInto_8 : decode cX7_dropInto 8 = .ok (.getfield 19, 3) := by decide +kernel
theorem dX7_dropInto_11 : decode cX7_dropInto 11 = .ok (.iload_n 1, 1) := by decide +kernel
theorem dX7_dropInto_12 : decode cX7_dropInto 12 = .ok (.iconst 1, 1) := by decide +kernel
theorem dX7_dropInto_13 : decode cX7_dropInto 13 = .ok (.invokevirtual 71, 3) := by decide +kernel
theorem dX7_dropInto_16 : decode cX7_dropInto 16 = .ok (.aload_n 0, 1) := by decide +kernel
theorem dX7_dropInto_17 : decode cX7_dropInto 17 = .ok (.dup, 1) := by decide +kernel
theorem dX7_dropInto_18 : decode cX7_dropInto 18 = .ok (.getfield 27, 3) := by decide +kernel
theorem dX7_dropInto_21 : decode cX7_dropInto 21 = .ok (.iconst 1, 1) := by decide +kernel
theorem dX7_dropInto_22 : decode cX7_dropInto 22 = .ok (.isub, 1) := by decide +kernel
theorem dX7_dropInto_23 : decode cX7_dropInto 23 = .ok (.putfield 27, 3) := by decide +kernel
theorem dX7_dropInto_26 : decode cX7_dropInto 26 = .ok (.return_, 1) := by decide +kernel
