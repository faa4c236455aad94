theorem dX9_init_0 : decode cX9_init 0 = .ok (.aload_n 0, 1) := by decide +kernel
theorem dX9_init_1 : decode cX9_init 1 = .ok (.invokespecial 1, 3) := by decide +kernel
theorem dX9_init_4 : decode cX9_init 4 = .ok (.aload_n 0, 1) := by decide +kernel
theorem dX9_init_5 : decode cX9_init 5 = .ok (.bipush 42, 2) := by decide +kernel
theorem dX9_init_7 : decode cX9_init 7 = .ok (.newarray .int, 2) := by decide +kernel
theorem dX9_init_9 : decode cX9_init 9 = .ok (.putfield 7, 3) := by decide +kernel
theorem dX9_init_12 : decode cX9_init 12 = .ok (.aload_n 0, 1) := by decide +kernel
theorem dX9_init_13 : decode cX9_init 13 = .ok (.bipush 42, 2) := by decide +kernel
theorem dX9_init_15 : decode cX9_init 15 = .ok (.newarray .int, 2) := by decide +kernel
theorem dX9_init_17 : decode cX9_init 17 = .ok (.putfield 13, 3) := by decide +kernel
theorem dX9_init_20 : decode cX9_init 20 = .ok (.aload_n 0, 1) := by decide +kernel
theorem dX9_init_21 : decode cX9_init 21 = .ok (.bipush 42, 2) := by decide +kernel
theorem dX9_init_23 : decode cX9_init 23 = .ok (.newarray .int, 2) := by decide +kernel
theorem dX9_init_25 : decode cX9_init 25 = .ok (.putfield 16, 3) := by decide +kernel
theorem dX9_init_28 : decode cX9_init 28 = .ok (.aload_n 0, 1) := by decide +kernel
theorem dX9_init_29 : decode cX9_init 29 = .ok (.sipush 168, 3) := by decide +kernel
theorem dX9_init_32 : decode cX9_init 32 = .ok (.newarray .int, 2) := by decide +kernel
theorem dX9_init_34 : decode cX9_init 34 = .ok (.putfield 19, 3) := by decide +kernel
theorem dX9_init_37 : decode cX9_init 37 = .ok (.aload_n 0, 1) := by decide +kernel
theorem dX9_init_38 : decode cX9_init 38 = .ok (.bipush 42, 2) := by decide +kernel
theorem dX9_init_40 : decode cX9_init 40 = .ok (.newarray .int, 2) := by decide +kernel
theorem dX9_init_42 : decode cX9_init 42 = .ok (.putfield 22, 3) := by decide +kernel
theorem dX9_init_45 : decode cX9_init 45 = .ok (.aload_n 0, 1) := by decide +kernel
theorem dX9_init_46 : decode cX9_init 46 = .ok (.bipush 42, 2) := by decide +kernel
theorem dX9_init_48 : decode cX9_init 48 = .ok (.newarray .int, 2) := by decide +kernel
theorem dX9_init_50 : decode cX9_init 50 = .ok (.putfield 25, 3) := by decide +kernel
theorem dX9_init_53 : decode cX9_init 53 = .ok (.aload_n 0, 1) := by decide +kernel
theorem dX9_init_54 : decode cX9_init 54 = .ok (.sipush 168, 3) := by decide +kernel
theorem dX9_init_57 : decode cX9_init 57 = .ok (.newarray .int, 2) := by decide +kernel
theorem dX9_init_59 : decode cX9_init 59 = .ok (.putfield 28, 3) := by decide +kernel
theorem dX9_init_62 : decode cX9_init 62 = .ok (.aload_n 0, 1) := by decide +kernel
theorem dX9_init_63 : decode cX9_init 63 = .ok (.bipush 42, 2) := by decide +kernel
theorem dX9_init_65 : decode cX9_init 65 = .ok (.newarray .int, 2) := by decide +kernel
theorem dX9_init_67 : decode cX9_init 67 = .ok (.putfield 31, 3) := by decide +kernel
theorem dX9_init_70 : decode cX9_init 70 = .ok (.aload_n 0, 1) := by decide +kernel
theorem dX9_init_71 : decode cX9_init 71 = .ok (.bipush 42, 2) := by decide +kernel
theorem dX9_init_73 : decode cX9_init 73 = .ok (.newarray .boolean, 2) := by decide +kernel
theorem dX9_init_75 : decode cX9_init 75 = .ok (.putfield 34, 3) := by decide +kernel
theorem dX9_init_78 : decode cX9_init 78 = .ok (.aload_n 0, 1) := by decide +kernel
theorem dX9_init_79 : decode cX9_init 79 = .ok (.sipush 168, 3) := by decide +kernel
theorem dX9_init_82 : decode cX9_init 82 = .ok (.newarray .boolean, 2) := by decide +kernel
theorem dX9_init_84 : decode cX9_init 84 = .ok (.putfield 38, 3) := by decide +kernel
theorem dX9_init_87 : decode cX9_init 87 = .ok (.aload_n 0, 1) := by decide +kernel
theorem dX9_init_88 : decode cX9_init 88 = .ok (.bipush 42, 2) := by decide +kernel
theorem dX9_init_90 : decode cX9_init 90 = .ok (.newarray .boolean, 2) := by decide +kernel
theorem dX9_init_92 : decode cX9_init 92 = .ok (.putfield 41, 3) := by decide +kernel
theorem dX9_init_95 : decode cX9_init 95 = .ok (.aload_n 0, 1) := by decide +kernel
theorem dX9_init_96 : decode cX9_init 96 = .ok (.bipush 8, 2) := by decide +kernel
theorem dX9_init_98 : decode cX9_init 98 = .ok (.newarray .int, 2) := by decide +kernel
theorem dX9_init_100 : decode cX9_init 100 = .ok (.putfield 44, 3) := by decide +kernel
theorem dX9_init_103 : decode cX9_init 103 = .ok (.aload_n 0, 1) := by decide +kernel
theorem dX9_init_104 : decode cX9_init 104 = .ok (.bipush 8, 2) := by decide +kernel
theorem dX9_init_106 : decode cX9_init 106 = .ok (.newarray .int, 2) := by decide +kernel
theorem dX9_init_108 : decode cX9_init 108 = .ok (.putfield 47, 3) := by decide +kernel
theorem dX9_init_111 : decode cX9_init 111 = .ok (.aload_n 0, 1) := by decide +kernel
theorem dX9_init_112 : decode cX9_init 112 = .ok (.bipush 7, 2) := by decide +kernel
theorem dX9_init_114 : decode cX9_init 114 = .ok (.newarray .int, 2) := by decide +kernel
theorem dX9_init_116 : decode cX9_init 116 = .ok (.putfield 50, 3) := by decide +kernel
theorem dX9_init_119 : decode cX9_init 119 = .ok (.aload_n 0, 1) := by decide +kernel
theorem dX9_init_120 : decode cX9_init 120 = .ok (.iconst 0, 1) := by decide +kernel
theorem dX9_init_121 : decode cX9_init 121 = .ok (.putfield 53, 3) := by decide +kernel
theorem dX9_init_124 : decode cX9_init 124 = .ok (.aload_n 0, 1) := by decide +kernel
theorem dX9_init_125 : decode cX9_init 125 = .ok (.iconst 0, 1) := by decide +kernel
theorem dX9_init_126 : decode cX9_init 126 = .ok (.putfield 57, 3) := by decide +kernel
theorem dX9_init_129 : decode cX9_init 129 = .ok (.aload_n 0, 1) := by decide +kernel
theorem dX9_init_130 : decode cX9_init 130 = .ok (.iconst 0, 1) := by decide +kernel
theorem dX9_init_131 : decode cX9_init 131 = .ok (.putfield 60, 3) := by decide +kernel
theorem dX9_init_134 : decode cX9_init 134 = .ok (.aload_n 0, 1) := by decide +kernel
theorem dX9_init_135 : decode cX9_init 135 = .ok (.iconst 0, 1) := by decide +kernel
theorem dX9_init_136 : decode cX9_init 136 = .ok (.putfield 63, 3) := by decide +kernel
theorem dX9_init_139 : decode cX9_init 139 = .ok (.aload_n 0, 1) := by decide +kernel
theorem dX9_init_140 : decode cX9_init 140 = .ok (.iconst 0, 1) := by decide +kernel
theorem dX9_init_141 : decode cX9_init 141 = .ok (.putfield 66, 3) := by decide +kernel
theorem dX9_init_144 : decode cX9_init 144 = .ok (.aload_n 0, 1) := by decide +kernel
theorem dX9_init_145 : decode cX9_init 145 = .ok (.iconst 0, 1) := by decide +kernel
theorem dX9_init_146 : decode cX9_init 146 = .ok (.putfield 69, 3) := by decide +kernel
theorem dX9_init_149 : decode cX9_init 149 = .ok (.aload_n 0, 1) := by decide +kernel
theorem dX9_init_150 : decode cX9_init 150 = .ok (.iconst 0, 1) := by decide +kernel
theorem dX9_init_151 : decode cX9_init 151 = .ok (.putfield 72, 3) := by decide +kernel
theorem dX9_init_154 : decode cX9_init 154 = .ok (.return_, 1) := by decide +kernel
theorem dX9_thrown_0 : decode cX9_thrown 0 = .ok (.aload_n 0, 1) := by decide +kernel
theorem dX9_thrown_1 : decode cX9_thrown 1 = .ok (.getfield 53, 3) := by decide +kernel
theorem dX9_thrown_4 : decode cX9_thrown 4 = .ok (.ireturn, 1) := by decide +kernel
theorem dX9_in_0 : decode cX9_in 0 = .ok (.iload_n 0, 1) := by decide +kernel
theorem dX9_in_1 : decode cX9_in 1 = .ok (.iload_n 1, 1) := by decide +kernel
theorem dX9_in_2 : decode cX9_in 2 = .ok (.if_icmp .lt 12, 3) := by decide +kernel
theorem dX9_in_5 : decode cX9_in 5 = .ok (.iload_n 0, 1) := by decide +kernel
theorem dX9_in_6 : decode cX9_in 6 = .ok (.iload_n 2, 1) := by decide +kernel
theorem dX9_in_7 : decode cX9_in 7 = .ok (.if_icmp .gt 7, 3) := by decide +kernel
theorem dX9_in_10 : decode cX9_in 10 = .ok (.iconst 1, 1) := by decide +kernel
theorem dX9_in_11 : decode cX9_in 11 = .ok (.goto 4, 3) := by decide +kernel
theorem dX9_in_14 : decode cX9_in 14 = .ok (.iconst 0, 1) := by decide +kernel
theorem dX9_in_15 : decode cX9_in 15 = .ok (.ireturn, 1) := by decide +kernel
theorem dX9_plain_0 : decode cX9_plain 0 = .ok (.aload_n 0, 1) := by decide +kernel
theorem dX9_plain_1 : decode cX9_plain 1 = .ok (.iconst 0, 1) := by decide +kernel
theorem dX9_plain_2 : decode cX9_plain 2 = .ok (.putfield 53, 3) := by decide +kernel
theorem dX9_plain_5 : decode cX9_plain 5 = .ok (.iload_n 1, 1) := by decide +kernel
theorem dX9_plain_6 : decode cX9_plain 6 = .ok (.ireturn, 1) := by decide +kernel
theorem dX9_checked_0 : decode cX9_checked 0 = .ok (.aload_n 0, 1) := by decide +kernel
theorem dX9_checked_1 : decode cX9_checked 1 = .ok (.iload_n 1, 1) := by decide +kernel
theorem dX9_checked_2 : decode cX9_checked 2 = .ok (.ifCond .eq 7, 3) := by decide +kernel
theorem dX9_checked_5 : decode cX9_checked 5 = .ok (.iconst 0, 1) := by decide +kernel
theorem dX9_checked_6 : decode cX9_checked 6 = .ok (.goto 4, 3) := by decide +kernel
theorem dX9_checked_9 : decode cX9_checked 9 = .ok (.iconst 1, 1) := by decide +kernel
theorem dX9_checked_10 : decode cX9_checked 10 = .ok (.putfield 53, 3) := by decide +kernel
theorem dX9_checked_13 : decode cX9_checked 13 = .ok (.aload_n 0, 1) := by decide +kernel
theorem dX9_checked_14 : decode cX9_checked 14 = .ok (.getfield 53, 3) := by decide +kernel
theorem dX9_checked_17 : decode cX9_checked 17 = .ok (.ireturn, 1) := by decide +kernel
set_option maxRecDepth 20000 in
theorem ggX9_isCell_X9_in : GoodIn wsX9_isCell wsX9_in := goodIn_r _ [4] (by decide +kernel) (by decide +kernel)
set_option maxRecDepth 20000 in
theorem gX9_isCell_X9_in : GoodIn wsX9_isCell (va_wsS RX9 75 yX9_in wsX9_in) := goodIn_app (goodIn_of _ (by decide +kernel)) ggX9_isCell_X9_in
theorem dX9_isCell_0 : decode cX9_isCell 0 = .ok (.iload_n 0, 1) := by decide +kernel
theorem dX9_isCell_1 : decode cX9_isCell 1 = .ok (.iconst 0, 1) := by decide +kernel
theorem dX9_isCell_2 : decode cX9_isCell 2 = .ok (.iconst 5, 1) := by decide +kernel
theorem dX9_isCell_3 : decode cX9_isCell 3 = .ok (.invokestatic 75, 3) := by decide +kernel
theorem dX9_isCell_6 : decode cX9_isCell 6 = .ok (.ifCond .eq 17, 3) := by decide +kernel
theorem dX9_isCell_9 : decode cX9_isCell 9 = .ok (.iload_n 1, 1) := by decide +kernel
theorem dX9_isCell_10 : decode cX9_isCell 10 = .ok (.iconst 0, 1) := by decide +kernel
theorem dX9_isCell_11 : decode cX9_isCell 11 = .ok (.bipush 6, 2) := by decide +kernel
theorem dX9_isCell_13 : decode cX9_isCell 13 = .ok (.invokestatic 75, 3) := by decide +kernel
theorem dX9_isCell_16 : decode cX9_isCell 16 = .ok (.ifCond .eq 7, 3) := by decide +kernel
theorem dX9_isCell_19 : decode cX9_isCell 19 = .ok (.iconst 1, 1) := by decide +kernel
theorem dX9_isCell_20 : decode cX9_isCell 20 = .ok (.goto 4, 3) := by decide +kernel
theorem dX9_isCell_23 : decode cX9_isCell 23 = .ok (.iconst 0, 1) := by decide +kernel
theorem dX9_isCell_24 : decode cX9_isCell 24 = .ok (.ireturn, 1) := by decide +kernel
theorem dX9_at_0 : decode cX9_at 0 = .ok (.bipush 6, 2) := by decide +kernel
theorem dX9_at_2 : decode cX9_at 2 = .ok (.iload_n 1, 1) := by decide +kernel
theorem dX9_at_3 : decode cX9_at 3 = .ok (.imul, 1) := by decide +kernel
theorem dX9_at_4 : decode cX9_at 4 = .ok (.iload_n 0, 1) := by decide +kernel
theorem dX9_at_5 : decode cX9_at 5 = .ok (.iadd, 1) := by decide +kernel
theorem dX9_at_6 : decode cX9_at 6 = .ok (.ireturn, 1) := by decide +kernel
theorem dX9_sideOf_0 : decode cX9_sideOf 0 = .ok (.iload_n 0, 1) := by decide +kernel
theorem dX9_sideOf_1 : decode cX9_sideOf 1 = .ok (.bipush 115, 2) := by decide +kernel
theorem dX9_sideOf_3 : decode cX9_sideOf 3 = .ok (.if_icmp .ne 7, 3) := by decide +kernel
theorem dX9_sideOf_6 : decode cX9_sideOf 6 = .ok (.iconst 0, 1) := by decide +kernel
theorem dX9_sideOf_7 : decode cX9_sideOf 7 = .ok (.goto 35, 3) := by decide +kernel
theorem dX9_sideOf_10 : decode cX9_sideOf 10 = .ok (.iload_n 0, 1) := by decide +kernel
theorem dX9_sideOf_11 : decode cX9_sideOf 11 = .ok (.bipush 108, 2) := by decide +kernel
theorem dX9_sideOf_13 : decode cX9_sideOf 13 = .ok (.if_icmp .ne 7, 3) := by decide +kernel
theorem dX9_sideOf_16 : decode cX9_sideOf 16 = .ok (.iconst 1, 1) := by decide +kernel
theorem dX9_sideOf_17 : decode cX9_sideOf 17 = .ok (.goto 25, 3) := by decide +kernel
theorem dX9_sideOf_20 : decode cX9_sideOf 20 = .ok (.iload_n 0, 1) := by decide +kernel
theorem dX9_sideOf_21 : decode cX9_sideOf 21 = .ok (.bipush 119, 2) := by decide +kernel
theorem dX9_sideOf_23 : decode cX9_sideOf 23 = .ok (.if_icmp .ne 7, 3) := by decide +kernel
theorem dX9_sideOf_26 : decode cX9_sideOf 26 = .ok (.iconst 2, 1) := by decide +kernel
theorem dX9_sideOf_27 : decode cX9_sideOf 27 = .ok (.goto 15, 3) := by decide +kernel
theorem dX9_sideOf_30 : decode cX9_sideOf 30 = .ok (.iload_n 0, 1) := by decide +kernel
theorem dX9_sideOf_31 : decode cX9_sideOf 31 = .ok (.bipush 101, 2) := by decide +kernel
theorem dX9_sideOf_33 : decode cX9_sideOf 33 = .ok (.if_icmp .ne 7, 3) := by decide +kernel
theorem dX9_sideOf_36 : decode cX9_sideOf 36 = .ok (.iconst 3, 1) := by decide +kernel
theorem dX9_sideOf_37 : decode cX9_sideOf 37 = .ok (.goto 5, 3) := by decide +kernel
theorem dX9_sideOf_40 : decode cX9_sideOf 40 = .ok (.bipush (-2), 2) := by decide +kernel
theorem dX9_sideOf_42 : decode cX9_sideOf 42 = .ok (.ireturn, 1) := by decide +kernel
theorem dX9_behind_0 : decode cX9_behind 0 = .ok (.iload_n 0, 1) := by decide +kernel
theorem dX9_behind_1 : decode cX9_behind 1 = .ok (.bipush 6, 2) := by decide +kernel
theorem dX9_behind_3 : decode cX9_behind 3 = .ok (.idiv, 1) := by decide +kernel
theorem dX9_behind_4 : decode cX9_behind 4 = .ok (.istore_n 2, 1) := by decide +kernel
theorem dX9_behind_5 : decode cX9_behind 5 = .ok (.iload_n 0, 1) := by decide +kernel
theorem dX9_behind_6 : decode cX9_behind 6 = .ok (.bipush 6, 2) := by decide +kernel
theorem dX9_behind_8 : decode cX9_behind 8 = .ok (.irem, 1) := by decide +kernel
theorem dX9_behind_9 : decode cX9_behind 9 = .ok (.istore_n 3, 1) := by decide +kernel
theorem dX9_behind_10 : decode cX9_behind 10 = .ok (.iload_n 1, 1) := by decide +kernel
theorem dX9_behind_11 : decode cX9_behind 11 = .ok (.ifCond .ne 16, 3) := by decide +kernel
theorem dX9_behind_14 : decode cX9_behind 14 = .ok (.iload_n 2, 1) := by decide +kernel
theorem dX9_behind_15 : decode cX9_behind 15 = .ok (.ifCond .ne 7, 3) := by decide +kernel
theorem dX9_behind_18 : decode cX9_behind 18 = .ok (.iconst (-1), 1) := by decide +kernel
theorem dX9_behind_19 : decode cX9_behind 19 = .ok (.goto 7, 3) := by decide +kernel
theorem dX9_behind_22 : decode cX9_behind 22 = .ok (.iload_n 0, 1) := by decide +kernel
theorem dX9_behind_23 : decode cX9_behind 23 = .ok (.bipush 6, 2) := by decide +kernel
theorem dX9_behind_25 : decode cX9_behind 25 = .ok (.isub, 1) := by decide +kernel
theorem dX9_behind_26 : decode cX9_behind 26 = .ok (.ireturn, 1) := by decide +kernel
theorem dX9_behind_27 : decode cX9_behind 27 = .ok (.iload_n 1, 1) := by decide +kernel
theorem dX9_behind_28 : decode cX9_behind 28 = .ok (.iconst 1, 1) := by decide +kernel
theorem dX9_behind_29 : decode cX9_behind 29 = .ok (.if_icmp .ne 19, 3) := by decide +kernel
theorem dX9_behind_32 : decode cX9_behind 32 = .ok (.iload_n 2, 1) := by decide +kernel
theorem dX9_behind_33 : decode cX9_behind 33 = .ok (.bipush 6, 2) := by decide +kernel
theorem dX9_behind_35 : decode cX9_behind 35 = .ok (.if_icmp .ne 8, 3) := by decide +kernel
theorem dX9_behind_38 : decode cX9_behind 38 = .ok (.bipush (-2), 2) := by decide +kernel
theorem dX9_behind_40 : decode cX9_behind 40 = .ok (.goto 7, 3) := by decide +kernel
theorem dX9_behind_43 : decode cX9_behind 43 = .ok (.iload_n 0, 1) := by decide +kernel
theorem dX9_behind_44 : decode cX9_behind 44 = .ok (.bipush 6, 2) := by decide +kernel
theorem dX9_behind_46 : decode cX9_behind 46 = .ok (.iadd, 1) := by decide +kernel
theorem dX9_behind_47 : decode cX9_behind 47 = .ok (.ireturn, 1) := by decide +kernel
theorem dX9_behind_48 : decode cX9_behind 48 = .ok (.iload_n 1, 1) := by decide +kernel
theorem dX9_behind_49 : decode cX9_behind 49 = .ok (.iconst 2, 1) := by decide +kernel
theorem dX9_behind_50 : decode cX9_behind 50 = .ok (.if_icmp .ne 16, 3) := by decide +kernel
theorem dX9_behind_53 : decode cX9_behind 53 = .ok (.iload_n 3, 1) := by decide +kernel
theorem dX9_behind_54 : decode cX9_behind 54 = .ok (.ifCond .ne 8, 3) := by decide +kernel
theorem dX9_behind_57 : decode cX9_behind 57 = .ok (.bipush (-2), 2) := by decide +kernel
theorem dX9_behind_59 : decode cX9_behind 59 = .ok (.goto 6, 3) := by decide +kernel
theorem dX9_behind_62 : decode cX9_behind 62 = .ok (.iload_n 0, 1) := by decide +kernel
theorem dX9_behind_63 : decode cX9_behind 63 = .ok (.iconst 1, 1) := by decide +kernel
theorem dX9_behind_64 : decode cX9_behind 64 = .ok (.isub, 1) := by decide +kernel
theorem dX9_behind_65 : decode cX9_behind 65 = .ok (.ireturn, 1) := by decide +kernel
theorem dX9_behind_66 : decode cX9_behind 66 = .ok (.iload_n 3, 1) := by decide +kernel
theorem dX9_behind_67 : decode cX9_behind 67 = .ok (.iconst 5, 1) := by decide +kernel
theorem dX9_behind_68 : decode cX9_behind 68 = .ok (.if_icmp .ne 8, 3) := by decide +kernel
theorem dX9_behind_71 : decode cX9_behind 71 = .ok (.bipush (-2), 2) := by decide +kernel
theorem dX9_behind_73 : decode cX9_behind 73 = .ok (.goto 6, 3) := by decide +kernel
theorem dX9_behind_76 : decode cX9_behind 76 = .ok (.iload_n 0, 1) := by decide +kernel
theorem dX9_behind_77 : decode cX9_behind 77 = .ok (.iconst 1, 1) := by decide +kernel
theorem dX9_behind_78 : decode cX9_behind 78 = .ok (.iadd, 1) := by decide +kernel
theorem dX9_behind_79 : decode cX9_behind 79 = .ok (.ireturn, 1) := by decide +kernel
theorem dX9_opposite_0 : decode cX9_opposite 0 = .ok (.iload_n 0, 1) := by decide +kernel
theorem dX9_opposite_1 : decode cX9_opposite 1 = .ok (.ifCond .ne 7, 3) := by decide +kernel
theorem dX9_opposite_4 : decode cX9_opposite 4 = .ok (.iconst 1, 1) := by decide +kernel
theorem dX9_opposite_5 : decode cX9_opposite 5 = .ok (.goto 22, 3) := by decide +kernel
theorem dX9_opposite_8 : decode cX9_opposite 8 = .ok (.iload_n 0, 1) := by decide +kernel
theorem dX9_opposite_9 : decode cX9_opposite 9 = .ok (.iconst 1, 1) := by decide +kernel
theorem dX9_opposite_10 : decode cX9_opposite 10 = .ok (.if_icmp .ne 7, 3) := by decide +kernel
theorem dX9_opposite_13 : decode cX9_opposite 13 = .ok (.iconst 0, 1) := by decide +kernel
theorem dX9_opposite_14 : decode cX9_opposite 14 = .ok (.goto 13, 3) := by decide +kernel
theorem dX9_opposite_17 : decode cX9_opposite 17 = .ok (.iload_n 0, 1) := by decide +kernel
theorem dX9_opposite_18 : decode cX9_opposite 18 = .ok (.iconst 2, 1) := by decide +kernel
theorem dX9_opposite_19 : decode cX9_opposite 19 = .ok (.if_icmp .ne 7, 3) := by decide +kernel
theorem dX9_opposite_22 : decode cX9_opposite 22 = .ok (.iconst 3, 1) := by decide +kernel
theorem dX9_opposite_23 : decode cX9_opposite 23 = .ok (.goto 4, 3) := by decide +kernel
theorem dX9_opposite_26 : decode cX9_opposite 26 = .ok (.iconst 2, 1) := by decide +kernel
theorem dX9_opposite_27 : decode cX9_opposite 27 = .ok (.ireturn, 1) := by decide +kernel
set_option maxRecDepth 20000 in
theorem ggX9_isOpen_X9_behind : GoodIn wsX9_isOpen wsX9_behind := goodIn_r _ [5] (by decide +kernel) (by decide +kernel)
set_option maxRecDepth 20000 in
theorem gX9_isOpen_X9_behind : GoodIn wsX9_isOpen (va_wsS RX9 79 yX9_behind wsX9_behind) := goodIn_app (goodIn_of _ (by decide +kernel)) ggX9_isOpen_X9_behind
theorem dX9_isOpen_0 : decode cX9_isOpen 0 = .ok (.iload_n 1, 1) := by decide +kernel
theorem dX9_isOpen_1 : decode cX9_isOpen 1 = .ok (.iload_n 2, 1) := by decide +kernel
theorem dX9_isOpen_2 : decode cX9_isOpen 2 = .ok (.invokestatic 79, 3) := by decide +kernel
theorem dX9_isOpen_5 : decode cX9_isOpen 5 = .ok (.bipush (-2), 2) := by decide +kernel
theorem dX9_isOpen_7 : decode cX9_isOpen 7 = .ok (.if_icmp .eq 20, 3) := by decide +kernel
theorem dX9_isOpen_10 : decode cX9_isOpen 10 = .ok (.aload_n 0, 1) := by decide +kernel
theorem dX9_isOpen_11 : decode cX9_isOpen 11 = .ok (.getfield 38, 3) := by decide +kernel
theorem dX9_isOpen_14 : decode cX9_isOpen 14 = .ok (.iconst 4, 1) := by decide +kernel
theorem dX9_isOpen_15 : decode cX9_isOpen 15 = .ok (.iload_n 1, 1) := by decide +kernel
theorem dX9_isOpen_16 : decode cX9_isOpen 16 = .ok (.imul, 1) := by decide +kernel
theorem dX9_isOpen_17 : decode cX9_isOpen 17 = .ok (.iload_n 2, 1) := by decide +kernel
theorem dX9_isOpen_18 : decode cX9_isOpen 18 = .ok (.iadd, 1) := by decide +kernel
theorem dX9_isOpen_19 : decode cX9_isOpen 19 = .ok (.baload, 1) := by decide +kernel
theorem dX9_isOpen_20 : decode cX9_isOpen 20 = .ok (.ifCond .ne 7, 3) := by decide +kernel
theorem dX9_isOpen_23 : decode cX9_isOpen 23 = .ok (.iconst 1, 1) := by decide +kernel
theorem dX9_isOpen_24 : decode cX9_isOpen 24 = .ok (.goto 4, 3) := by decide +kernel
theorem dX9_isOpen_27 : decode cX9_isOpen 27 = .ok (.iconst 0, 1) := by decide +kernel
theorem dX9_isOpen_28 : decode cX9_isOpen 28 = .ok (.ireturn, 1) := by decide +kernel
theorem dX9_bound_0 : decode cX9_bound 0 = .ok (.aload_n 0, 1) := by decide +kernel
theorem dX9_bound_1 : decode cX9_bound 1 = .ok (.getfield 34, 3) := by decide +kernel
theorem dX9_bound_4 : decode cX9_bound 4 = .ok (.iload_n 1, 1) := by decide +kernel
theorem dX9_bound_5 : decode cX9_bound 5 = .ok (.baload, 1) := by decide +kernel
theorem dX9_bound_6 : decode cX9_bound 6 = .ok (.ifCond .eq 8, 3) := by decide +kernel
theorem dX9_bound_9 : decode cX9_bound 9 = .ok (.bipush 8, 2) := by decide +kernel
theorem dX9_bound_11 : decode cX9_bound 11 = .ok (.goto 4, 3) := by decide +kernel
theorem dX9_bound_14 : decode cX9_bound 14 = .ok (.iconst 4, 1) := by decide +kernel
theorem dX9_bound_15 : decode cX9_bound 15 = .ok (.ireturn, 1) := by decide +kernel
set_option maxRecDepth 20000 in
theorem ggX9_topples_X9_isOpen : GoodIn wsX9_topples wsX9_isOpen := goodIn_r _ [10, 11, 12, 13, 9, 14, 18, 19, 20, 21, 22, 23, 24, 25, 26, 27, 28, 29, 30, 31, 32, 33, 34, 35, 36, 37, 38] (by decide +kernel) (by decide +kernel)
set_option maxRecDepth 20000 in
theorem gX9_topples_X9_isOpen : GoodIn wsX9_topples (wsV RX9 83 RX9 yX9_isOpen wsX9_isOpen) := goodIn_app (goodIn_of _ (by decide +kernel)) ggX9_topples_X9_isOpen
set_option maxRecDepth 20000 in
theorem ggX9_topples_X9_behind : GoodIn wsX9_topples wsX9_behind := goodIn_r _ [14] (by decide +kernel) (by decide +kernel)
set_option maxRecDepth 20000 in
theorem gX9_topples_X9_behind : GoodIn wsX9_topples (va_wsS RX9 79 yX9_behind wsX9_behind) := goodIn_app (goodIn_of _ (by decide +kernel)) ggX9_topples_X9_behind
set_option maxRecDepth 20000 in
theorem ggX9_topples_X9_opposite : GoodIn wsX9_topples wsX9_opposite := goodIn_r _ [17] (by decide +kernel) (by decide +kernel)
set_option maxRecDepth 20000 in
theorem gX9_topples_X9_opposite : GoodIn wsX9_topples (va_wsS RX9 87 yX9_opposite wsX9_opposite) := goodIn_app (goodIn_of _ (by decide +kernel)) ggX9_topples_X9_opposite
theorem dX9_topples_0 : decode cX9_topples 0 = .ok (.iconst 0, 1) := by decide +kernel
theorem dX9_topples_1 : decode cX9_topples 1 = .ok (.istore_n 2, 1) := by decide +kernel
theorem dX9_topples_2 : decode cX9_topples 2 = .ok (.iload_n 2, 1) := by decide +kernel
theorem dX9_topples_3 : decode cX9_topples 3 = .ok (.iconst 4, 1) := by decide +kernel
theorem dX9_topples_4 : decode cX9_topples 4 = .ok (.if_icmp .ge 96, 3) := by decide +kernel
theorem dX9_topples_7 : decode cX9_topples 7 = .ok (.aload_n 0, 1) := by decide +kernel
theorem dX9_topples_8 : decode cX9_topples 8 = .ok (.iload_n 1, 1) := by decide +kernel
theorem dX9_topples_9 : decode cX9_topples 9 = .ok (.iload_n 2, 1) := by decide +kernel
theorem dX9_topples_10 : decode cX9_topples 10 = .ok (.invokevirtual 83, 3) := by decide +kernel
theorem dX9_topples_13 : decode cX9_topples 13 = .ok (.ifCond .ne 6, 3) := by decide +kernel
theorem dX9_topples_16 : decode cX9_topples 16 = .ok (.goto 78, 3) := by decide +kernel
theorem dX9_topples_19 : decode cX9_topples 19 = .ok (.iload_n 1, 1) := by decide +kernel
theorem dX9_topples_20 : decode cX9_topples 20 = .ok (.iload_n 2, 1) := by decide +kernel
theorem dX9_topples_21 : decode cX9_topples 21 = .ok (.invokestatic 79, 3) := by decide +kernel
theorem dX9_topples_24 : decode cX9_topples 24 = .ok (.istore_n 3, 1) := by decide +kernel
theorem dX9_topples_25 : decode cX9_topples 25 = .ok (.aload_n 0, 1) := by decide +kernel
theorem dX9_topples_26 : decode cX9_topples 26 = .ok (.getfield 7, 3) := by decide +kernel
theorem dX9_topples_29 : decode cX9_topples 29 = .ok (.iload_n 1, 1) := by decide +kernel
theorem dX9_topples_30 : decode cX9_topples 30 = .ok (.dup2, 1) := by decide +kernel
theorem dX9_topples_31 : decode cX9_topples 31 = .ok (.iaload, 1) := by decide +kernel
theorem dX9_topples_32 : decode cX9_topples 32 = .ok (.iconst 1, 1) := by decide +kernel
theorem dX9_topples_33 : decode cX9_topples 33 = .ok (.isub, 1) := by decide +kernel
theorem dX9_topples_34 : decode cX9_topples 34 = .ok (.iastore, 1) := by decide +kernel
theorem dX9_topples_35 : decode cX9_topples 35 = .ok (.aload_n 0, 1) := by decide +kernel
theorem dX9_topples_36 : decode cX9_topples 36 = .ok (.getfield 19, 3) := by decide +kernel
theorem dX9_topples_39 : decode cX9_topples 39 = .ok (.iconst 4, 1) := by decide +kernel
theorem dX9_topples_40 : decode cX9_topples 40 = .ok (.iload_n 1, 1) := by decide +kernel
theorem dX9_topples_41 : decode cX9_topples 41 = .ok (.imul, 1) := by decide +kernel
theorem dX9_topples_42 : decode cX9_topples 42 = .ok (.iload_n 2, 1) := by decide +kernel
theorem dX9_topples_43 : decode cX9_topples 43 = .ok (.iadd, 1) := by decide +kernel
theorem dX9_topples_44 : decode cX9_topples 44 = .ok (.dup2, 1) := by decide +kernel
theorem dX9_topples_45 : decode cX9_topples 45 = .ok (.iaload, 1) := by decide +kernel
theorem dX9_topples_46 : decode cX9_topples 46 = .ok (.iconst 1, 1) := by decide +kernel
theorem dX9_topples_47 : decode cX9_topples 47 = .ok (.iadd, 1) := by decide +kernel
theorem dX9_topples_48 : decode cX9_topples 48 = .ok (.iastore, 1) := by decide +kernel
theorem dX9_topples_49 : decode cX9_topples 49 = .ok (.iload_n 3, 1) := by decide +kernel
theorem dX9_topples_50 : decode cX9_topples 50 = .ok (.iconst (-1), 1) := by decide +kernel
theorem dX9_topples_51 : decode cX9_topples 51 = .ok (.if_icmp .ne 16, 3) := by decide +kernel
theorem dX9_topples_54 : decode cX9_topples 54 = .ok (.aload_n 0, 1) := by decide +kernel
theorem dX9_topples_55 : decode cX9_topples 55 = .ok (.dup, 1) := by decide +kernel
theorem dX9_topples_56 : decode cX9_topples 56 = .ok (.getfield 57, 3) := by decide +kernel
theorem dX9_topples_59 : decode cX9_topples 59 = .ok (.iconst 1, 1) := by decide +kernel
theorem dX9_topples_60 : decode cX9_topples 60 = .ok (.iadd, 1) := by decide +kernel
theorem dX9_topples_61 : decode cX9_topples 61 = .ok (.putfield 57, 3) := by decide +kernel
theorem dX9_topples_64 : decode cX9_topples 64 = .ok (.goto 30, 3) := by decide +kernel
theorem dX9_topples_67 : decode cX9_topples 67 = .ok (.aload_n 0, 1) := by decide +kernel
theorem dX9_topples_68 : decode cX9_topples 68 = .ok (.getfield 7, 3) := by decide +kernel
theorem dX9_topples_71 : decode cX9_topples 71 = .ok (.iload_n 3, 1) := by decide +kernel
theorem dX9_topples_72 : decode cX9_topples 72 = .ok (.dup2, 1) := by decide +kernel
theorem dX9_topples_73 : decode cX9_topples 73 = .ok (.iaload, 1) := by decide +kernel
theorem dX9_topples_74 : decode cX9_topples 74 = .ok (.iconst 1, 1) := by decide +kernel
theorem dX9_topples_75 : decode cX9_topples 75 = .ok (.iadd, 1) := by decide +kernel
theorem dX9_topples_76 : decode cX9_topples 76 = .ok (.iastore, 1) := by decide +kernel
theorem dX9_topples_77 : decode cX9_topples 77 = .ok (.aload_n 0, 1) := by decide +kernel
theorem dX9_topples_78 : decode cX9_topples 78 = .ok (.getfield 19, 3) := by decide +kernel
theorem dX9_topples_81 : decode cX9_topples 81 = .ok (.iconst 4, 1) := by decide +kernel
theorem dX9_topples_82 : decode cX9_topples 82 = .ok (.iload_n 3, 1) := by decide +kernel
theorem dX9_topples_83 : decode cX9_topples 83 = .ok (.imul, 1) := by decide +kernel
theorem dX9_topples_84 : decode cX9_topples 84 = .ok (.iload_n 2, 1) := by decide +kernel
theorem dX9_topples_85 : decode cX9_topples 85 = .ok (.invokestatic 87, 3) := by decide +kernel
theorem dX9_topples_88 : decode cX9_topples 88 = .ok (.iadd, 1) := by decide +kernel
theorem dX9_topples_89 : decode cX9_topples 89 = .ok (.dup2, 1) := by decide +kernel
theorem dX9_topples_90 : decode cX9_topples 90 = .ok (.iaload, 1) := by decide +kernel
theorem dX9_topples_91 : decode cX9_topples 91 = .ok (.iconst 1, 1) := by decide +kernel
theorem dX9_topples_92 : decode cX9_topples 92 = .ok (.isub, 1) := by decide +kernel
theorem dX9_topples_93 : decode cX9_topples 93 = .ok (.iastore, 1) := by decide +kernel
theorem dX9_topples_94 : decode cX9_topples 94 = .ok (.iinc 2 1, 3) := by decide +kernel
theorem dX9_topples_97 : decode cX9_topples 97 = .ok (.goto (-95), 3) := by decide +kernel
theorem dX9_topples_100 : decode cX9_topples 100 = .ok (.aload_n 0, 1) := by decide +kernel
theorem dX9_topples_101 : decode cX9_topples 101 = .ok (.getfield 16, 3) := by decide +kernel
theorem dX9_topples_104 : decode cX9_topples 104 = .ok (.iload_n 1, 1) := by decide +kernel
theorem dX9_topples_105 : decode cX9_topples 105 = .ok (.dup2, 1) := by decide +kernel
theorem dX9_topples_106 : decode cX9_topples 106 = .ok (.iaload, 1) := by decide +kernel
theorem dX9_topples_107 : decode cX9_topples 107 = .ok (.iconst 1, 1) := by decide +kernel
theorem dX9_topples_108 : decode cX9_topples 108 = .ok (.iadd, 1) := by decide +kernel
theorem dX9_topples_109 : decode cX9_topples 109 = .ok (.iastore, 1) := by decide +kernel
theorem dX9_topples_110 : decode cX9_topples 110 = .ok (.aload_n 0, 1) := by decide +kernel
theorem dX9_topples_111 : decode cX9_topples 111 = .ok (.dup, 1) := by decide +kernel
theorem dX9_topples_112 : decode cX9_topples 112 = .ok (.getfield 69, 3) := by decide +kernel
theorem dX9_topples_115 : decode cX9_topples 115 = .ok (.iconst 1, 1) := by decide +kernel
theorem dX9_topples_116 : decode cX9_topples 116 = .ok (.iadd, 1) := by decide +kernel
theorem dX9_topples_117 : decode cX9_topples 117 = .ok (.putfield 69, 3) := by decide +kernel
theorem dX9_topples_120 : decode cX9_topples 120 = .ok (.return_, 1) := by decide +kernel
set_option maxRecDepth 20000 in
theorem ggX9_settles_X9_bound : GoodIn wsX9_settles wsX9_bound := goodIn_r _ [7, 8, 27, 28, 29, 30, 31, 32, 33, 34, 35, 36, 37, 38, 39, 40, 41, 42, 43, 44, 45, 46, 47] (by decide +kernel) (by decide +kernel)
set_option maxRecDepth 20000 in
theorem gX9_settles_X9_bound : GoodIn wsX9_settles (wsV RX9 91 RX9 yX9_bound wsX9_bound) := goodIn_app (goodIn_of _ (by decide +kernel)) ggX9_settles_X9_bound
set_option maxRecDepth 20000 in
theorem ggX9_settles_X9_topples : GoodIn wsX9_settles wsX9_topples := goodIn_r _ [12, 2, 13, 14, 15, 1, 16, 17, 18, 6, 19, 20, 21, 22, 23, 24, 25, 26, 27, 28, 29, 30, 31, 32, 33, 34, 35, 36, 37, 38, 39, 40, 41, 42, 43, 44, 45, 46, 47] (by decide +kernel) (by decide +kernel)
set_option maxRecDepth 20000 in
theorem gX9_settles_X9_topples : GoodIn wsX9_settles (wsV RX9 94 RX9 yX9_topples wsX9_topples) := goodIn_app (goodIn_of _ (by decide +kernel)) ggX9_settles_X9_topples
theorem dX9_settles_0 : decode cX9_settles 0 = .ok (.aload_n 0, 1) := by decide +kernel
theorem dX9_settles_1 : decode cX9_settles 1 = .ok (.iconst 0, 1) := by decide +kernel
theorem dX9_settles_2 : decode cX9_settles 2 = .ok (.putfield 69, 3) := by decide +kernel
theorem dX9_settles_5 : decode cX9_settles 5 = .ok (.bipush (-2), 2) := by decide +kernel
theorem dX9_settles_7 : decode cX9_settles 7 = .ok (.istore_n 1, 1) := by decide +kernel
theorem dX9_settles_8 : decode cX9_settles 8 = .ok (.iload_n 1, 1) := by decide +kernel
theorem dX9_settles_9 : decode cX9_settles 9 = .ok (.aload_n 0, 1) := by decide +kernel
theorem dX9_settles_10 : decode cX9_settles 10 = .ok (.getfield 69, 3) := by decide +kernel
theorem dX9_settles_13 : decode cX9_settles 13 = .ok (.if_icmp .eq 44, 3) := by decide +kernel
theorem dX9_settles_16 : decode cX9_settles 16 = .ok (.aload_n 0, 1) := by decide +kernel
theorem dX9_settles_17 : decode cX9_settles 17 = .ok (.getfield 69, 3) := by decide +kernel
theorem dX9_settles_20 : decode cX9_settles 20 = .ok (.istore_n 1, 1) := by decide +kernel
theorem dX9_settles_21 : decode cX9_settles 21 = .ok (.iconst 0, 1) := by decide +kernel
theorem dX9_settles_22 : decode cX9_settles 22 = .ok (.istore_n 2, 1) := by decide +kernel
theorem dX9_settles_23 : decode cX9_settles 23 = .ok (.iload_n 2, 1) := by decide +kernel
theorem dX9_settles_24 : decode cX9_settles 24 = .ok (.bipush 42, 2) := by decide +kernel
theorem dX9_settles_26 : decode cX9_settles 26 = .ok (.if_icmp .ge 28, 3) := by decide +kernel
theorem dX9_settles_29 : decode cX9_settles 29 = .ok (.aload_n 0, 1) := by decide +kernel
theorem dX9_settles_30 : decode cX9_settles 30 = .ok (.getfield 7, 3) := by decide +kernel
theorem dX9_settles_33 : decode cX9_settles 33 = .ok (.iload_n 2, 1) := by decide +kernel
theorem dX9_settles_34 : decode cX9_settles 34 = .ok (.iaload, 1) := by decide +kernel
theorem dX9_settles_35 : decode cX9_settles 35 = .ok (.aload_n 0, 1) := by decide +kernel
theorem dX9_settles_36 : decode cX9_settles 36 = .ok (.iload_n 2, 1) := by decide +kernel
theorem dX9_settles_37 : decode cX9_settles 37 = .ok (.invokevirtual 91, 3) := by decide +kernel
theorem dX9_settles_40 : decode cX9_settles 40 = .ok (.if_icmp .lt 8, 3) := by decide +kernel
theorem dX9_settles_43 : decode cX9_settles 43 = .ok (.aload_n 0, 1) := by decide +kernel
theorem dX9_settles_44 : decode cX9_settles 44 = .ok (.iload_n 2, 1) := by decide +kernel
theorem dX9_settles_45 : decode cX9_settles 45 = .ok (.invokevirtual 94, 3) := by decide +kernel
theorem dX9_settles_48 : decode cX9_settles 48 = .ok (.iinc 2 1, 3) := by decide +kernel
theorem dX9_settles_51 : decode cX9_settles 51 = .ok (.goto (-28), 3) := by decide +kernel
theorem dX9_settles_54 : decode cX9_settles 54 = .ok (.goto (-46), 3) := by decide +kernel
theorem dX9_settles_57 : decode cX9_settles 57 = .ok (.aload_n 0, 1) := by decide +kernel
theorem dX9_settles_58 : decode cX9_settles 58 = .ok (.getfield 69, 3) := by decide +kernel
theorem dX9_settles_61 : decode cX9_settles 61 = .ok (.ireturn, 1) := by decide +kernel
theorem dX9_saves_0 : decode cX9_saves 0 = .ok (.iconst 0, 1) := by decide +kernel
theorem dX9_saves_1 : decode cX9_saves 1 = .ok (.istore_n 1, 1) := by decide +kernel
theorem dX9_saves_2 : decode cX9_saves 2 = .ok (.iload_n 1, 1) := by decide +kernel
theorem dX9_saves_3 : decode cX9_saves 3 = .ok (.bipush 42, 2) := by decide +kernel
theorem dX9_saves_5 : decode cX9_saves 5 = .ok (.if_icmp .ge 33, 3) := by decide +kernel
theorem dX9_saves_8 : decode cX9_saves 8 = .ok (.aload_n 0, 1) := by decide +kernel
theorem dX9_saves_9 : decode cX9_saves 9 = .ok (.getfield 22, 3) := by decide +kernel
theorem dX9_saves_12 : decode cX9_saves 12 = .ok (.iload_n 1, 1) := by decide +kernel
theorem dX9_saves_13 : decode cX9_saves 13 = .ok (.aload_n 0, 1) := by decide +kernel
theorem dX9_saves_14 : decode cX9_saves 14 = .ok (.getfield 7, 3) := by decide +kernel
theorem dX9_saves_17 : decode cX9_saves 17 = .ok (.iload_n 1, 1) := by decide +kernel
theorem dX9_saves_18 : decode cX9_saves 18 = .ok (.iaload, 1) := by decide +kernel
theorem dX9_saves_19 : decode cX9_saves 19 = .ok (.iastore, 1) := by decide +kernel
theorem dX9_saves_20 : decode cX9_saves 20 = .ok (.aload_n 0, 1) := by decide +kernel
theorem dX9_saves_21 : decode cX9_saves 21 = .ok (.getfield 25, 3) := by decide +kernel
theorem dX9_saves_24 : decode cX9_saves 24 = .ok (.iload_n 1, 1) := by decide +kernel
theorem dX9_saves_25 : decode cX9_saves 25 = .ok (.aload_n 0, 1) := by decide +kernel
theorem dX9_saves_26 : decode cX9_saves 26 = .ok (.getfield 16, 3) := by decide +kernel
theorem dX9_saves_29 : decode cX9_saves 29 = .ok (.iload_n 1, 1) := by decide +kernel
theorem dX9_saves_30 : decode cX9_saves 30 = .ok (.iaload, 1) := by decide +kernel
theorem dX9_saves_31 : decode cX9_saves 31 = .ok (.iastore, 1) := by decide +kernel
theorem dX9_saves_32 : decode cX9_saves 32 = .ok (.iinc 1 1, 3) := by decide +kernel
theorem dX9_saves_35 : decode cX9_saves 35 = .ok (.goto (-33), 3) := by decide +kernel
theorem dX9_saves_38 : decode cX9_saves 38 = .ok (.iconst 0, 1) := by decide +kernel
theorem dX9_saves_39 : decode cX9_saves 39 = .ok (.istore_n 1, 1) := by decide +kernel
theorem dX9_saves_40 : decode cX9_saves 40 = .ok (.iload_n 1, 1) := by decide +kernel
theorem dX9_saves_41 : decode cX9_saves 41 = .ok (.sipush 168, 3) := by decide +kernel
theorem dX9_saves_44 : decode cX9_saves 44 = .ok (.if_icmp .ge 21, 3) := by decide +kernel
theorem dX9_saves_47 : decode cX9_saves 47 = .ok (.aload_n 0, 1) := by decide +kernel
theorem dX9_saves_48 : decode cX9_saves 48 = .ok (.getfield 28, 3) := by decide +kernel
theorem dX9_saves_51 : decode cX9_saves 51 = .ok (.iload_n 1, 1) := by decide +kernel
theorem dX9_saves_52 : decode cX9_saves 52 = .ok (.aload_n 0, 1) := by decide +kernel
theorem dX9_saves_53 : decode cX9_saves 53 = .ok (.getfield 19, 3) := by decide +kernel
theorem dX9_saves_56 : decode cX9_saves 56 = .ok (.iload_n 1, 1) := by decide +kernel
theorem dX9_saves_57 : decode cX9_saves 57 = .ok (.iaload, 1) := by decide +kernel
theorem dX9_saves_58 : decode cX9_saves 58 = .ok (.iastore, 1) := by decide +kernel
theorem dX9_saves_59 : decode cX9_saves 59 = .ok (.iinc 1 1, 3) := by decide +kernel
theorem dX9_saves_62 : decode cX9_saves 62 = .ok (.goto (-22), 3) := by decide +kernel
theorem dX9_saves_65 : decode cX9_saves 65 = .ok (.aload_n 0, 1) := by decide +kernel
theorem dX9_saves_66 : decode cX9_saves 66 = .ok (.aload_n 0, 1) := by decide +kernel
theorem dX9_saves_67 : decode cX9_saves 67 = .ok (.getfield 57, 3) := by decide +kernel
theorem dX9_saves_70 : decode cX9_saves 70 = .ok (.putfield 72, 3) := by decide +kernel
theorem dX9_saves_73 : decode cX9_saves 73 = .ok (.return_, 1) := by decide +kernel
theorem dX9_restores_0 : decode cX9_restores 0 = .ok (.iconst 0, 1) := by decide +kernel
theorem dX9_restores_1 : decode cX9_restores 1 = .ok (.istore_n 1, 1) := by decide +kernel
theorem dX9_restores_2 : decode cX9_restores 2 = .ok (.iload_n 1, 1) := by decide +kernel
theorem dX9_restores_3 : decode cX9_restores 3 = .ok (.bipush 42, 2) := by decide +kernel
theorem dX9_restores_5 : decode cX9_restores 5 = .ok (.if_icmp .ge 33, 3) := by decide +kernel
theorem dX9_restores_8 : decode cX9_restores 8 = .ok (.aload_n 0, 1) := by decide +kernel
theorem dX9_restores_9 : decode cX9_restores 9 = .ok (.getfield 7, 3) := by decide +kernel
theorem dX9_restores_12 : decode cX9_restores 12 = .ok (.iload_n 1, 1) := by decide +kernel
theorem dX9_restores_13 : decode cX9_restores 13 = .ok (.aload_n 0, 1) := by decide +kernel
theorem dX9_restores_14 : decode cX9_restores 14 = .ok (.getfield 22, 3) := by decide +kernel
theorem dX9_restores_17 : decode cX9_restores 17 = .ok (.iload_n 1, 1) := by decide +kernel
theorem dX9_restores_18 : decode cX9_restores 18 = .ok (.iaload, 1) := by decide +kernel
theorem dX9_restores_19 : decode cX9_restores 19 = .ok (.iastore, 1) := by decide +kernel
theorem dX9_restores_20 : decode cX9_restores 20 = .ok (.aload_n 0, 1) := by decide +kernel
theorem dX9_restores_21 : decode cX9_restores 21 = .ok (.getfield 16, 3) := by decide +kernel
theorem dX9_restores_24 : decode cX9_restores 24 = .ok (.iload_n 1, 1) := by decide +kernel
theorem dX9_restores_25 : decode cX9_restores 25 = .ok (.aload_n 0, 1) := by decide +kernel
theorem dX9_restores_26 : decode cX9_restores 26 = .ok (.getfield 25, 3) := by decide +kernel
theorem dX9_restores_29 : decode cX9_restores 29 = .ok (.iload_n 1, 1) := by decide +kernel
theorem dX9_restores_30 : decode cX9_restores 30 = .ok (.iaload, 1) := by decide +kernel
theorem dX9_restores_31 : decode cX9_restores 31 = .ok (.iastore, 1) := by decide +kernel
theorem dX9_restores_32 : decode cX9_restores 32 = .ok (.iinc 1 1, 3) := by decide +kernel
theorem dX9_restores_35 : decode cX9_restores 35 = .ok (.goto (-33), 3) := by decide +kernel
theorem dX9_restores_38 : decode cX9_restores 38 = .ok (.iconst 0, 1) := by decide +kernel
theorem dX9_restores_39 : decode cX9_restores 39 = .ok (.istore_n 1, 1) := by decide +kernel
theorem dX9_restores_40 : decode cX9_restores 40 = .ok (.iload_n 1, 1) := by decide +kernel
theorem dX9_restores_41 : decode cX9_restores 41 = .ok (.sipush 168, 3) := by decide +kernel
theorem dX9_restores_44 : decode cX9_restores 44 = .ok (.if_icmp .ge 21, 3) := by decide +kernel
theorem dX9_restores_47 : decode cX9_restores 47 = .ok (.aload_n 0, 1) := by decide +kernel
theorem dX9_restores_48 : decode cX9_restores 48 = .ok (.getfield 19, 3) := by decide +kernel
theorem dX9_restores_51 : decode cX9_restores 51 = .ok (.iload_n 1, 1) := by decide +kernel
theorem dX9_restores_52 : decode cX9_restores 52 = .ok (.aload_n 0, 1) := by decide +kernel
theorem dX9_restores_53 : decode cX9_restores 53 = .ok (.getfield 28, 3) := by decide +kernel
theorem dX9_restores_56 : decode cX9_restores 56 = .ok (.iload_n 1, 1) := by decide +kernel
theorem dX9_restores_57 : decode cX9_restores 57 = .ok (.iaload, 1) := by decide +kernel
theorem dX9_restores_58 : decode cX9_restores 58 = .ok (.iastore, 1) := by decide +kernel
theorem dX9_restores_59 : decode cX9_restores 59 = .ok (.iinc 1 1, 3) := by decide +kernel
theorem dX9_restores_62 : decode cX9_restores 62 = .ok (.goto (-22), 3) := by decide +kernel
theorem dX9_restores_65 : decode cX9_restores 65 = .ok (.aload_n 0, 1) := by decide +kernel
theorem dX9_restores_66 : decode cX9_restores 66 = .ok (.aload_n 0, 1) := by decide +kernel
theorem dX9_restores_67 : decode cX9_restores 67 = .ok (.getfield 72, 3) := by decide +kernel
theorem dX9_restores_70 : decode cX9_restores 70 = .ok (.putfield 57, 3) := by decide +kernel
theorem dX9_restores_73 : decode cX9_restores 73 = .ok (.return_, 1) := by decide +kernel
set_option maxRecDepth 20000 in
theorem ggX9_isBad_X9_isCell : GoodIn wsX9_isBad wsX9_isCell := goodIn_r _ [5, 6, 7, 4, 8] (by decide +kernel) (by decide +kernel)
set_option maxRecDepth 20000 in
theorem gX9_isBad_X9_isCell : GoodIn wsX9_isBad (va_wsS RX9 98 yX9_isCell wsX9_isCell) := goodIn_app (goodIn_of _ (by decide +kernel)) ggX9_isBad_X9_isCell
set_option maxRecDepth 20000 in
theorem ggX9_isBad_X9_in : GoodIn wsX9_isBad wsX9_in := goodIn_r _ [8] (by decide +kernel) (by decide +kernel)
set_option maxRecDepth 20000 in
theorem gX9_isBad_X9_in : GoodIn wsX9_isBad (va_wsS RX9 75 yX9_in wsX9_in) := goodIn_app (goodIn_of _ (by decide +kernel)) ggX9_isBad_X9_in
theorem dX9_isBad_0 : decode cX9_isBad 0 = .ok (.aload_n 0, 1) := by decide +kernel
theorem dX9_isBad_1 : decode cX9_isBad 1 = .ok (.iload_n 1, 1) := by decide +kernel
theorem dX9_isBad_2 : decode cX9_isBad 2 = .ok (.iload_n 2, 1) := by decide +kernel
theorem dX9_isBad_3 : decode cX9_isBad 3 = .ok (.invokestatic 98, 3) := by decide +kernel
theorem dX9_isBad_6 : decode cX9_isBad 6 = .ok (.ifCond .ne 7, 3) := by decide +kernel
theorem dX9_isBad_9 : decode cX9_isBad 9 = .ok (.iconst 1, 1) := by decide +kernel
theorem dX9_isBad_10 : decode cX9_isBad 10 = .ok (.goto 18, 3) := by decide +kernel
theorem dX9_isBad_13 : decode cX9_isBad 13 = .ok (.iload_n 3, 1) := by decide +kernel
theorem dX9_isBad_14 : decode cX9_isBad 14 = .ok (.iconst 1, 1) := by decide +kernel
theorem dX9_isBad_15 : decode cX9_isBad 15 = .ok (.bipush 60, 2) := by decide +kernel
theorem dX9_isBad_17 : decode cX9_isBad 17 = .ok (.invokestatic 75, 3) := by decide +kernel
theorem dX9_isBad_20 : decode cX9_isBad 20 = .ok (.ifCond .ne 7, 3) := by decide +kernel
theorem dX9_isBad_23 : decode cX9_isBad 23 = .ok (.iconst 2, 1) := by decide +kernel
theorem dX9_isBad_24 : decode cX9_isBad 24 = .ok (.goto 4, 3) := by decide +kernel
theorem dX9_isBad_27 : decode cX9_isBad 27 = .ok (.iconst 0, 1) := by decide +kernel
theorem dX9_isBad_28 : decode cX9_isBad 28 = .ok (.putfield 53, 3) := by decide +kernel
theorem dX9_isBad_31 : decode cX9_isBad 31 = .ok (.aload_n 0, 1) := by decide +kernel
theorem dX9_isBad_32 : decode cX9_isBad 32 = .ok (.getfield 53, 3) := by decide +kernel
theorem dX9_isBad_35 : decode cX9_isBad 35 = .ok (.ifCond .le 7, 3) := by decide +kernel
theorem dX9_isBad_38 : decode cX9_isBad 38 = .ok (.iconst 1, 1) := by decide +kernel
theorem dX9_isBad_39 : decode cX9_isBad 39 = .ok (.goto 4, 3) := by decide +kernel
theorem dX9_isBad_42 : decode cX9_isBad 42 = .ok (.iconst 0, 1) := by decide +kernel
theorem dX9_isBad_43 : decode cX9_isBad 43 = .ok (.ireturn, 1) := by decide +kernel
set_option maxRecDepth 20000 in
theorem ggX9_pours_X9_settles : GoodIn wsX9_pours wsX9_settles := goodIn_r _ [6, 7, 1, 8, 9, 10, 5, 11, 12, 13, 14, 15, 16, 17, 18, 19, 20, 21, 22, 23, 24, 25, 26, 27, 28, 29, 30, 31, 32, 33, 34, 35, 36, 37, 38, 39, 40, 41, 42, 43, 44, 45, 46, 47, 48, 49, 50, 51] (by decide +kernel) (by decide +kernel)
set_option maxRecDepth 20000 in
theorem gX9_pours_X9_settles : GoodIn wsX9_pours (wsV RX9 101 RX9 yX9_settles wsX9_settles) := goodIn_app (goodIn_of _ (by decide +kernel)) ggX9_pours_X9_settles
theorem dX9_pours_0 : decode cX9_pours 0 = .ok (.aload_n 0, 1) := by decide +kernel
theorem dX9_pours_1 : decode cX9_pours 1 = .ok (.getfield 7, 3) := by decide +kernel
theorem dX9_pours_4 : decode cX9_pours 4 = .ok (.iload_n 1, 1) := by decide +kernel
theorem dX9_pours_5 : decode cX9_pours 5 = .ok (.dup2, 1) := by decide +kernel
theorem dX9_pours_6 : decode cX9_pours 6 = .ok (.iaload, 1) := by decide +kernel
theorem dX9_pours_7 : decode cX9_pours 7 = .ok (.iload_n 2, 1) := by decide +kernel
theorem dX9_pours_8 : decode cX9_pours 8 = .ok (.iadd, 1) := by decide +kernel
theorem dX9_pours_9 : decode cX9_pours 9 = .ok (.iastore, 1) := by decide +kernel
theorem dX9_pours_10 : decode cX9_pours 10 = .ok (.aload_n 0, 1) := by decide +kernel
theorem dX9_pours_11 : decode cX9_pours 11 = .ok (.invokevirtual 101, 3) := by decide +kernel
theorem dX9_pours_14 : decode cX9_pours 14 = .ok (.ireturn, 1) := by decide +kernel
set_option maxRecDepth 20000 in
theorem ggX9_pour_X9_isBad : GoodIn wsX9_pour wsX9_isBad := goodIn_r _ [7, 8, 9, 10, 6, 11, 12, 13, 14, 51, 52, 53, 54, 55, 56, 57, 58, 59, 60, 61, 62, 63, 64, 65, 66, 67, 68, 69, 70, 71] (by decide +kernel) (by decide +kernel)
set_option maxRecDepth 20000 in
theorem gX9_pour_X9_isBad : GoodIn wsX9_pour (wsV RX9 105 RX9 yX9_isBad wsX9_isBad) := goodIn_app (goodIn_of _ (by decide +kernel)) ggX9_pour_X9_isBad
set_option maxRecDepth 20000 in
theorem ggX9_pour_X9_at : GoodIn wsX9_pour wsX9_at := goodIn_r _ [17] (by decide +kernel) (by decide +kernel)
set_option maxRecDepth 20000 in
theorem gX9_pour_X9_at : GoodIn wsX9_pour (va_wsS RX9 108 yX9_at wsX9_at) := goodIn_app (goodIn_of _ (by decide +kernel)) ggX9_pour_X9_at
set_option maxRecDepth 20000 in
theorem ggX9_pour_X9_pours : GoodIn wsX9_pour wsX9_pours := goodIn_r _ [21, 22, 23, 24, 25, 6, 26, 27, 28, 29, 30, 31, 32, 33, 34, 35, 36, 37, 38, 39, 40, 41, 42, 43, 44, 45, 46, 47, 48, 49, 50, 51, 52, 53, 54, 55, 56, 57, 58, 59, 60, 61, 62, 63, 64, 65, 66, 67, 68, 69, 70, 71] (by decide +kernel) (by decide +kernel)
set_option maxRecDepth 20000 in
theorem gX9_pour_X9_pours : GoodIn wsX9_pour (wsV RX9 111 RX9 yX9_pours wsX9_pours) := goodIn_app (goodIn_of _ (by decide +kernel)) ggX9_pour_X9_pours
theorem dX9_pour_0 : decode cX9_pour 0 = .ok (.aload_n 0, 1) := by decide +kernel
theorem dX9_pour_1 : decode cX9_pour 1 = .ok (.iload_n 1, 1) := by decide +kernel
theorem dX9_pour_2 : decode cX9_pour 2 = .ok (.iload_n 2, 1) := by decide +kernel
theorem dX9_pour_3 : decode cX9_pour 3 = .ok (.iload_n 3, 1) := by decide +kernel
theorem dX9_pour_4 : decode cX9_pour 4 = .ok (.invokevirtual 105, 3) := by decide +kernel
theorem dX9_pour_7 : decode cX9_pour 7 = .ok (.ifCond .eq 5, 3) := by decide +kernel
theorem dX9_pour_10 : decode cX9_pour 10 = .ok (.iconst 0, 1) := by decide +kernel
theorem dX9_pour_11 : decode cX9_pour 11 = .ok (.ireturn, 1) := by decide +kernel
theorem dX9_pour_12 : decode cX9_pour 12 = .ok (.aload_n 0, 1) := by decide +kernel
theorem dX9_pour_13 : decode cX9_pour 13 = .ok (.getfield 13, 3) := by decide +kernel
theorem dX9_pour_16 : decode cX9_pour 16 = .ok (.iload_n 1, 1) := by decide +kernel
theorem dX9_pour_17 : decode cX9_pour 17 = .ok (.iload_n 2, 1) := by decide +kernel
theorem dX9_pour_18 : decode cX9_pour 18 = .ok (.invokestatic 108, 3) := by decide +kernel
theorem dX9_pour_21 : decode cX9_pour 21 = .ok (.dup2, 1) := by decide +kernel
theorem dX9_pour_22 : decode cX9_pour 22 = .ok (.iaload, 1) := by decide +kernel
theorem dX9_pour_23 : decode cX9_pour 23 = .ok (.iload_n 3, 1) := by decide +kernel
theorem dX9_pour_24 : decode cX9_pour 24 = .ok (.iadd, 1) := by decide +kernel
theorem dX9_pour_25 : decode cX9_pour 25 = .ok (.iastore, 1) := by decide +kernel
theorem dX9_pour_26 : decode cX9_pour 26 = .ok (.aload_n 0, 1) := by decide +kernel
theorem dX9_pour_27 : decode cX9_pour 27 = .ok (.dup, 1) := by decide +kernel
theorem dX9_pour_28 : decode cX9_pour 28 = .ok (.getfield 60, 3) := by decide +kernel
theorem dX9_pour_31 : decode cX9_pour 31 = .ok (.iload_n 3, 1) := by decide +kernel
theorem dX9_pour_32 : decode cX9_pour 32 = .ok (.iadd, 1) := by decide +kernel
theorem dX9_pour_33 : decode cX9_pour 33 = .ok (.putfield 60, 3) := by decide +kernel
theorem dX9_pour_36 : decode cX9_pour 36 = .ok (.aload_n 0, 1) := by decide +kernel
theorem dX9_pour_37 : decode cX9_pour 37 = .ok (.iload_n 1, 1) := by decide +kernel
theorem dX9_pour_38 : decode cX9_pour 38 = .ok (.iload_n 2, 1) := by decide +kernel
theorem dX9_pour_39 : decode cX9_pour 39 = .ok (.invokestatic 108, 3) := by decide +kernel
theorem dX9_pour_42 : decode cX9_pour 42 = .ok (.iload_n 3, 1) := by decide +kernel
theorem dX9_pour_43 : decode cX9_pour 43 = .ok (.invokevirtual 111, 3) := by decide +kernel
theorem dX9_pour_46 : decode cX9_pour 46 = .ok (.ireturn, 1) := by decide +kernel
set_option maxRecDepth 20000 in
theorem ggX9_dig_X9_isBad : GoodIn wsX9_dig wsX9_isBad := goodIn_r _ [9, 2, 10, 11, 8, 12, 13, 14, 15, 19, 20, 21, 22, 23, 24, 25, 26, 27, 28, 29, 30, 31, 32, 33, 34, 35, 36, 37, 38, 39] (by decide +kernel) (by decide +kernel)
set_option maxRecDepth 20000 in
theorem gX9_dig_X9_isBad : GoodIn wsX9_dig (wsV RX9 105 RX9 yX9_isBad wsX9_isBad) := goodIn_app (goodIn_of _ (by decide +kernel)) ggX9_dig_X9_isBad
set_option maxRecDepth 20000 in
theorem ggX9_dig_X9_at : GoodIn wsX9_dig wsX9_at := goodIn_r _ [18] (by decide +kernel) (by decide +kernel)
set_option maxRecDepth 20000 in
theorem gX9_dig_X9_at : GoodIn wsX9_dig (va_wsS RX9 108 yX9_at wsX9_at) := goodIn_app (goodIn_of _ (by decide +kernel)) ggX9_dig_X9_at
theorem dX9_dig_0 : decode cX9_dig 0 = .ok (.aload_n 0, 1) := by decide +kernel
theorem dX9_dig_1 : decode cX9_dig 1 = .ok (.iload_n 1, 1) := by decide +kernel
theorem dX9_dig_2 : decode cX9_dig 2 = .ok (.iload_n 2, 1) := by decide +kernel
theorem dX9_dig_3 : decode cX9_dig 3 = .ok (.iload_n 3, 1) := by decide +kernel
theorem dX9_dig_4 : decode cX9_dig 4 = .ok (.invokevirtual 105, 3) := by decide +kernel
theorem dX9_dig_7 : decode cX9_dig 7 = .ok (.ifCond .eq 5, 3) := by decide +kernel
theorem dX9_dig_10 : decode cX9_dig 10 = .ok (.iconst 0, 1) := by decide +kernel
theorem dX9_dig_11 : decode cX9_dig 11 = .ok (.ireturn, 1) := by decide +kernel
theorem dX9_dig_12 : decode cX9_dig 12 = .ok (.iload_n 1, 1) := by decide +kernel
theorem dX9_dig_13 : decode cX9_dig 13 = .ok (.iload_n 2, 1) := by decide +kernel
theorem dX9_dig_14 : decode cX9_dig 14 = .ok (.invokestatic 108, 3) := by decide +kernel
theorem dX9_dig_17 : decode cX9_dig 17 = .ok (.istore 4, 2) := by decide +kernel
theorem dX9_dig_19 : decode cX9_dig 19 = .ok (.aload_n 0, 1) := by decide +kernel
theorem dX9_dig_20 : decode cX9_dig 20 = .ok (.aload_n 0, 1) := by decide +kernel
theorem dX9_dig_21 : decode cX9_dig 21 = .ok (.getfield 7, 3) := by decide +kernel
theorem dX9_dig_24 : decode cX9_dig 24 = .ok (.iload 4, 2) := by decide +kernel
theorem dX9_dig_26 : decode cX9_dig 26 = .ok (.iaload, 1) := by decide +kernel
theorem dX9_dig_27 : decode cX9_dig 27 = .ok (.iload_n 3, 1) := by decide +kernel
theorem dX9_dig_28 : decode cX9_dig 28 = .ok (.if_icmp .ge 7, 3) := by decide +kernel
theorem dX9_dig_31 : decode cX9_dig 31 = .ok (.iconst 3, 1) := by decide +kernel
theorem dX9_dig_32 : decode cX9_dig 32 = .ok (.goto 4, 3) := by decide +kernel
theorem dX9_dig_35 : decode cX9_dig 35 = .ok (.iconst 0, 1) := by decide +kernel
theorem dX9_dig_36 : decode cX9_dig 36 = .ok (.putfield 53, 3) := by decide +kernel
theorem dX9_dig_39 : decode cX9_dig 39 = .ok (.aload_n 0, 1) := by decide +kernel
theorem dX9_dig_40 : decode cX9_dig 40 = .ok (.getfield 53, 3) := by decide +kernel
theorem dX9_dig_43 : decode cX9_dig 43 = .ok (.ifCond .le 5, 3) := by decide +kernel
theorem dX9_dig_46 : decode cX9_dig 46 = .ok (.iconst 0, 1) := by decide +kernel
theorem dX9_dig_47 : decode cX9_dig 47 = .ok (.ireturn, 1) := by decide +kernel
theorem dX9_dig_48 : decode cX9_dig 48 = .ok (.aload_n 0, 1) := by decide +kernel
theorem dX9_dig_49 : decode cX9_dig 49 = .ok (.getfield 7, 3) := by decide +kernel
theorem dX9_dig_52 : decode cX9_dig 52 = .ok (.iload 4, 2) := by decide +kernel
theorem dX9_dig_54 : decode cX9_dig 54 = .ok (.dup2, 1) := by decide +kernel
theorem dX9_dig_55 : decode cX9_dig 55 = .ok (.iaload, 1) := by decide +kernel
theorem dX9_dig_56 : decode cX9_dig 56 = .ok (.iload_n 3, 1) := by decide +kernel
theorem dX9_dig_57 : decode cX9_dig 57 = .ok (.isub, 1) := by decide +kernel
theorem dX9_dig_58 : decode cX9_dig 58 = .ok (.iastore, 1) := by decide +kernel
theorem dX9_dig_59 : decode cX9_dig 59 = .ok (.aload_n 0, 1) := by decide +kernel
theorem dX9_dig_60 : decode cX9_dig 60 = .ok (.getfield 13, 3) := by decide +kernel
theorem dX9_dig_63 : decode cX9_dig 63 = .ok (.iload 4, 2) := by decide +kernel
theorem dX9_dig_65 : decode cX9_dig 65 = .ok (.dup2, 1) := by decide +kernel
theorem dX9_dig_66 : decode cX9_dig 66 = .ok (.iaload, 1) := by decide +kernel
theorem dX9_dig_67 : decode cX9_dig 67 = .ok (.iload_n 3, 1) := by decide +kernel
theorem dX9_dig_68 : decode cX9_dig 68 = .ok (.isub, 1) := by decide +kernel
theorem dX9_dig_69 : decode cX9_dig 69 = .ok (.iastore, 1) := by decide +kernel
theorem dX9_dig_70 : decode cX9_dig 70 = .ok (.aload_n 0, 1) := by decide +kernel
theorem dX9_dig_71 : decode cX9_dig 71 = .ok (.dup, 1) := by decide +kernel
theorem dX9_dig_72 : decode cX9_dig 72 = .ok (.getfield 60, 3) := by decide +kernel
theorem dX9_dig_75 : decode cX9_dig 75 = .ok (.iload_n 3, 1) := by decide +kernel
theorem dX9_dig_76 : decode cX9_dig 76 = .ok (.isub, 1) := by decide +kernel
theorem dX9_dig_77 : decode cX9_dig 77 = .ok (.putfield 60, 3) := by decide +kernel
theorem dX9_dig_80 : decode cX9_dig 80 = .ok (.aload_n 0, 1) := by decide +kernel
theorem dX9_dig_81 : decode cX9_dig 81 = .ok (.getfield 7, 3) := by decide +kernel
theorem dX9_dig_84 : decode cX9_dig 84 = .ok (.iload 4, 2) := by decide +kernel
theorem dX9_dig_86 : decode cX9_dig 86 = .ok (.iaload, 1) := by decide +kernel
theorem dX9_dig_87 : decode cX9_dig 87 = .ok (.ireturn, 1) := by decide +kernel
set_option maxRecDepth 20000 in
theorem ggX9_topplesIf_X9_isBad : GoodIn wsX9_topplesIf wsX9_isBad := goodIn_r _ [5, 6, 7, 8, 4, 9, 10, 11, 12, 61, 62, 63, 64, 65, 66, 67, 68, 69, 70, 71, 72, 73, 74, 75, 76, 77, 78, 79, 80, 81] (by decide +kernel) (by decide +kernel)
set_option maxRecDepth 20000 in
theorem gX9_topplesIf_X9_isBad : GoodIn wsX9_topplesIf (wsV RX9 105 RX9 yX9_isBad wsX9_isBad) := goodIn_app (goodIn_of _ (by decide +kernel)) ggX9_topplesIf_X9_isBad
set_option maxRecDepth 20000 in
theorem ggX9_topplesIf_X9_saves : GoodIn wsX9_topplesIf wsX9_saves := goodIn_r _ [16, 17, 18, 19, 20, 21, 22, 23, 24, 61, 62, 63, 64, 65, 66, 67, 68, 69, 70, 71, 72, 73, 74, 75, 76, 77, 78, 79, 80, 81] (by decide +kernel) (by decide +kernel)
set_option maxRecDepth 20000 in
theorem gX9_topplesIf_X9_saves : GoodIn wsX9_topplesIf (wsV RX9 114 RX9 yX9_saves wsX9_saves) := goodIn_app (goodIn_of _ (by decide +kernel)) ggX9_topplesIf_X9_saves
set_option maxRecDepth 20000 in
theorem ggX9_topplesIf_X9_at : GoodIn wsX9_topplesIf wsX9_at := goodIn_r _ [27] (by decide +kernel) (by decide +kernel)
set_option maxRecDepth 20000 in
theorem gX9_topplesIf_X9_at : GoodIn wsX9_topplesIf (va_wsS RX9 108 yX9_at wsX9_at) := goodIn_app (goodIn_of _ (by decide +kernel)) ggX9_topplesIf_X9_at
set_option maxRecDepth 20000 in
theorem ggX9_topplesIf_X9_pours : GoodIn wsX9_topplesIf wsX9_pours := goodIn_r _ [31, 18, 32, 33, 34, 4, 35, 36, 37, 38, 39, 40, 41, 42, 43, 44, 45, 22, 23, 20, 46, 47, 48, 49, 50, 51, 52, 53, 54, 55, 56, 61, 62, 63, 64, 65, 66, 67, 68, 69, 70, 71, 72, 73, 74, 75, 76, 77, 78, 79, 80, 81] (by decide +kernel) (by decide +kernel)
set_option maxRecDepth 20000 in
theorem gX9_topplesIf_X9_pours : GoodIn wsX9_topplesIf (wsV RX9 111 RX9 yX9_pours wsX9_pours) := goodIn_app (goodIn_of _ (by decide +kernel)) ggX9_topplesIf_X9_pours
set_option maxRecDepth 20000 in
theorem ggX9_topplesIf_X9_restores : GoodIn wsX9_topplesIf wsX9_restores := goodIn_r _ [60, 18, 17, 20, 19, 22, 21, 24, 23, 61, 62, 63, 64, 65, 66, 67, 68, 69, 70, 71, 72, 73, 74, 75, 76, 77, 78, 79, 80, 81] (by decide +kernel) (by decide +kernel)
set_option maxRecDepth 20000 in
theorem gX9_topplesIf_X9_restores : GoodIn wsX9_topplesIf (wsV RX9 117 RX9 yX9_restores wsX9_restores) := goodIn_app (goodIn_of _ (by decide +kernel)) ggX9_topplesIf_X9_restores
theorem dX9_topplesIf_0 : decode cX9_topplesIf 0 = .ok (.aload_n 0, 1) := by decide +kernel
theorem dX9_topplesIf_1 : decode cX9_topplesIf 1 = .ok (.iload_n 1, 1) := by decide +kernel
theorem dX9_topplesIf_2 : decode cX9_topplesIf 2 = .ok (.iload_n 2, 1) := by decide +kernel
theorem dX9_topplesIf_3 : decode cX9_topplesIf 3 = .ok (.iload_n 3, 1) := by decide +kernel
theorem dX9_topplesIf_4 : decode cX9_topplesIf 4 = .ok (.invokevirtual 105, 3) := by decide +kernel
theorem dX9_topplesIf_7 : decode cX9_topplesIf 7 = .ok (.ifCond .eq 5, 3) := by decide +kernel
theorem dX9_topplesIf_10 : decode cX9_topplesIf 10 = .ok (.iconst 0, 1) := by decide +kernel
theorem dX9_topplesIf_11 : decode cX9_topplesIf 11 = .ok (.ireturn, 1) := by decide +kernel
theorem dX9_topplesIf_12 : decode cX9_topplesIf 12 = .ok (.aload_n 0, 1) := by decide +kernel
theorem dX9_topplesIf_13 : decode cX9_topplesIf 13 = .ok (.invokevirtual 114, 3) := by decide +kernel
theorem dX9_topplesIf_16 : decode cX9_topplesIf 16 = .ok (.aload_n 0, 1) := by decide +kernel
theorem dX9_topplesIf_17 : decode cX9_topplesIf 17 = .ok (.iload_n 1, 1) := by decide +kernel
theorem dX9_topplesIf_18 : decode cX9_topplesIf 18 = .ok (.iload_n 2, 1) := by decide +kernel
theorem dX9_topplesIf_19 : decode cX9_topplesIf 19 = .ok (.invokestatic 108, 3) := by decide +kernel
theorem dX9_topplesIf_22 : decode cX9_topplesIf 22 = .ok (.iload_n 3, 1) := by decide +kernel
theorem dX9_topplesIf_23 : decode cX9_topplesIf 23 = .ok (.invokevirtual 111, 3) := by decide +kernel
theorem dX9_topplesIf_26 : decode cX9_topplesIf 26 = .ok (.istore 4, 2) := by decide +kernel
theorem dX9_topplesIf_28 : decode cX9_topplesIf 28 = .ok (.aload_n 0, 1) := by decide +kernel
theorem dX9_topplesIf_29 : decode cX9_topplesIf 29 = .ok (.invokevirtual 117, 3) := by decide +kernel
theorem dX9_topplesIf_32 : decode cX9_topplesIf 32 = .ok (.iload 4, 2) := by decide +kernel
theorem dX9_topplesIf_34 : decode cX9_topplesIf 34 = .ok (.ireturn, 1) := by decide +kernel
set_option maxRecDepth 20000 in
theorem ggX9_topplesIfBySweeps_X9_topplesIf : GoodIn wsX9_topplesIfBySweeps wsX9_topplesIf := goodIn_r _ [5, 6, 7, 8, 4, 9, 10, 11, 12, 13, 14, 15, 16, 17, 18, 19, 20, 21, 22, 23, 24, 25, 26, 27, 28, 29, 30, 31, 32, 33, 34, 35, 36, 37, 38, 39, 40, 41, 42, 43, 44, 45, 46, 47, 48, 49, 50, 51, 52, 53, 54, 55, 56, 57, 58, 59, 60, 61, 62, 63, 64, 65, 66, 67, 68, 69, 70, 71, 72, 73, 74, 75, 76, 77, 78, 79, 80, 81, 82, 83, 84, 85] (by decide +kernel) (by decide +kernel)
set_option maxRecDepth 20000 in
theorem gX9_topplesIfBySweeps_X9_topplesIf : GoodIn wsX9_topplesIfBySweeps (wsV RX9 120 RX9 yX9_topplesIf wsX9_topplesIf) := goodIn_app (goodIn_of _ (by decide +kernel)) ggX9_topplesIfBySweeps_X9_topplesIf
theorem dX9_topplesIfBySweeps_0 : decode cX9_topplesIfBySweeps 0 = .ok (.aload_n 0, 1) := by decide +kernel
theorem dX9_topplesIfBySweeps_1 : decode cX9_topplesIfBySweeps 1 = .ok (.iload_n 1, 1) := by decide +kernel
theorem dX9_topplesIfBySweeps_2 : decode cX9_topplesIfBySweeps 2 = .ok (.iload_n 2, 1) := by decide +kernel
theorem dX9_topplesIfBySweeps_3 : decode cX9_topplesIfBySweeps 3 = .ok (.iload_n 3, 1) := by decide +kernel
theorem dX9_topplesIfBySweeps_4 : decode cX9_topplesIfBySweeps 4 = .ok (.invokevirtual 120, 3) := by decide +kernel
theorem dX9_topplesIfBySweeps_7 : decode cX9_topplesIfBySweeps 7 = .ok (.ireturn, 1) := by decide +kernel
set_option maxRecDepth 20000 in
theorem ggX9_lostIf_X9_isBad : GoodIn wsX9_lostIf wsX9_isBad := goodIn_r _ [7, 8, 9, 10, 6, 11, 12, 13, 14, 61, 62, 63, 64, 65, 66, 67, 68, 69, 70, 71, 72, 73, 74, 75, 76, 77, 78, 79, 80, 81] (by decide +kernel) (by decide +kernel)
set_option maxRecDepth 20000 in
theorem gX9_lostIf_X9_isBad : GoodIn wsX9_lostIf (wsV RX9 105 RX9 yX9_isBad wsX9_isBad) := goodIn_app (goodIn_of _ (by decide +kernel)) ggX9_lostIf_X9_isBad
set_option maxRecDepth 20000 in
theorem ggX9_lostIf_X9_saves : GoodIn wsX9_lostIf wsX9_saves := goodIn_r _ [18, 19, 20, 21, 22, 23, 24, 1, 2, 61, 62, 63, 64, 65, 66, 67, 68, 69, 70, 71, 72, 73, 74, 75, 76, 77, 78, 79, 80, 81] (by decide +kernel) (by decide +kernel)
set_option maxRecDepth 20000 in
theorem gX9_lostIf_X9_saves : GoodIn wsX9_lostIf (wsV RX9 114 RX9 yX9_saves wsX9_saves) := goodIn_app (goodIn_of _ (by decide +kernel)) ggX9_lostIf_X9_saves
set_option maxRecDepth 20000 in
theorem ggX9_lostIf_X9_at : GoodIn wsX9_lostIf wsX9_at := goodIn_r _ [27] (by decide +kernel) (by decide +kernel)
set_option maxRecDepth 20000 in
theorem gX9_lostIf_X9_at : GoodIn wsX9_lostIf (va_wsS RX9 108 yX9_at wsX9_at) := goodIn_app (goodIn_of _ (by decide +kernel)) ggX9_lostIf_X9_at
set_option maxRecDepth 20000 in
theorem ggX9_lostIf_X9_pours : GoodIn wsX9_lostIf wsX9_pours := goodIn_r _ [31, 20, 32, 33, 34, 6, 35, 36, 37, 38, 39, 40, 41, 42, 43, 44, 45, 24, 1, 22, 46, 47, 48, 49, 50, 51, 52, 53, 54, 55, 56, 61, 62, 63, 64, 65, 66, 67, 68, 69, 70, 71, 72, 73, 74, 75, 76, 77, 78, 79, 80, 81] (by decide +kernel) (by decide +kernel)
set_option maxRecDepth 20000 in
theorem gX9_lostIf_X9_pours : GoodIn wsX9_lostIf (wsV RX9 111 RX9 yX9_pours wsX9_pours) := goodIn_app (goodIn_of _ (by decide +kernel)) ggX9_lostIf_X9_pours
set_option maxRecDepth 20000 in
theorem ggX9_lostIf_X9_restores : GoodIn wsX9_lostIf wsX9_restores := goodIn_r _ [60, 20, 19, 22, 21, 24, 23, 2, 1, 61, 62, 63, 64, 65, 66, 67, 68, 69, 70, 71, 72, 73, 74, 75, 76, 77, 78, 79, 80, 81] (by decide +kernel) (by decide +kernel)
set_option maxRecDepth 20000 in
theorem gX9_lostIf_X9_restores : GoodIn wsX9_lostIf (wsV RX9 117 RX9 yX9_restores wsX9_restores) := goodIn_app (goodIn_of _ (by decide +kernel)) ggX9_lostIf_X9_restores
theorem dX9_lostIf_0 : decode cX9_lostIf 0 = .ok (.aload_n 0, 1) := by decide +kernel
theorem dX9_lostIf_1 : decode cX9_lostIf 1 = .ok (.iload_n 1, 1) := by decide +kernel
theorem dX9_lostIf_2 : decode cX9_lostIf 2 = .ok (.iload_n 2, 1) := by decide +kernel
theorem dX9_lostIf_3 : decode cX9_lostIf 3 = .ok (.iload_n 3, 1) := by decide +kernel
theorem dX9_lostIf_4 : decode cX9_lostIf 4 = .ok (.invokevirtual 105, 3) := by decide +kernel
theorem dX9_lostIf_7 : decode cX9_lostIf 7 = .ok (.ifCond .eq 5, 3) := by decide +kernel
theorem dX9_lostIf_10 : decode cX9_lostIf 10 = .ok (.iconst 0, 1) := by decide +kernel
theorem dX9_lostIf_11 : decode cX9_lostIf 11 = .ok (.ireturn, 1) := by decide +kernel
theorem dX9_lostIf_12 : decode cX9_lostIf 12 = .ok (.aload_n 0, 1) := by decide +kernel
theorem dX9_lostIf_13 : decode cX9_lostIf 13 = .ok (.invokevirtual 114, 3) := by decide +kernel
theorem dX9_lostIf_16 : decode cX9_lostIf 16 = .ok (.aload_n 0, 1) := by decide +kernel
theorem dX9_lostIf_17 : decode cX9_lostIf 17 = .ok (.iload_n 1, 1) := by decide +kernel
theorem dX9_lostIf_18 : decode cX9_lostIf 18 = .ok (.iload_n 2, 1) := by decide +kernel
theorem dX9_lostIf_19 : decode cX9_lostIf 19 = .ok (.invokestatic 108, 3) := by decide +kernel
theorem dX9_lostIf_22 : decode cX9_lostIf 22 = .ok (.iload_n 3, 1) := by decide +kernel
theorem dX9_lostIf_23 : decode cX9_lostIf 23 = .ok (.invokevirtual 111, 3) := by decide +kernel
theorem dX9_lostIf_26 : decode cX9_lostIf 26 = .ok (.istore 4, 2) := by decide +kernel
theorem dX9_lostIf_28 : decode cX9_lostIf 28 = .ok (.aload_n 0, 1) := by decide +kernel
theorem dX9_lostIf_29 : decode cX9_lostIf 29 = .ok (.getfield 57, 3) := by decide +kernel
theorem dX9_lostIf_32 : decode cX9_lostIf 32 = .ok (.aload_n 0, 1) := by decide +kernel
theorem dX9_lostIf_33 : decode cX9_lostIf 33 = .ok (.getfield 72, 3) := by decide +kernel
theorem dX9_lostIf_36 : decode cX9_lostIf 36 = .ok (.isub, 1) := by decide +kernel
theorem dX9_lostIf_37 : decode cX9_lostIf 37 = .ok (.istore 5, 2) := by decide +kernel
theorem dX9_lostIf_39 : decode cX9_lostIf 39 = .ok (.aload_n 0, 1) := by decide +kernel
theorem dX9_lostIf_40 : decode cX9_lostIf 40 = .ok (.invokevirtual 117, 3) := by decide +kernel
theorem dX9_lostIf_43 : decode cX9_lostIf 43 = .ok (.iload 5, 2) := by decide +kernel
theorem dX9_lostIf_45 : decode cX9_lostIf 45 = .ok (.ireturn, 1) := by decide +kernel
set_option maxRecDepth 20000 in
theorem ggX9_lostIfBySweeps_X9_lostIf : GoodIn wsX9_lostIfBySweeps wsX9_lostIf := goodIn_r _ [5, 6, 7, 8, 9, 10, 4, 11, 12, 13, 14, 15, 16, 17, 18, 19, 20, 21, 22, 23, 24, 25, 26, 27, 28, 29, 30, 31, 32, 33, 34, 35, 36, 37, 38, 39, 40, 41, 42, 43, 44, 45, 46, 47, 48, 49, 50, 51, 52, 53, 54, 55, 56, 57, 58, 59, 60, 61, 62, 63, 64, 65, 66, 67, 68, 69, 70, 71, 72, 73, 74, 75, 76, 77, 78, 79, 80, 81, 82, 83, 84, 85] (by decide +kernel) (by decide +kernel)
set_option maxRecDepth 20000 in
theorem gX9_lostIfBySweeps_X9_lostIf : GoodIn wsX9_lostIfBySweeps (wsV RX9 124 RX9 yX9_lostIf wsX9_lostIf) := goodIn_app (goodIn_of _ (by decide +kernel)) ggX9_lostIfBySweeps_X9_lostIf
theorem dX9_lostIfBySweeps_0 : decode cX9_lostIfBySweeps 0 = .ok (.aload_n 0, 1) := by decide +kernel
theorem dX9_lostIfBySweeps_1 : decode cX9_lostIfBySweeps 1 = .ok (.iload_n 1, 1) := by decide +kernel
theorem dX9_lostIfBySweeps_2 : decode cX9_lostIfBySweeps 2 = .ok (.iload_n 2, 1) := by decide +kernel
theorem dX9_lostIfBySweeps_3 : decode cX9_lostIfBySweeps 3 = .ok (.iload_n 3, 1) := by decide +kernel
theorem dX9_lostIfBySweeps_4 : decode cX9_lostIfBySweeps 4 = .ok (.invokevirtual 124, 3) := by decide +kernel
theorem dX9_lostIfBySweeps_7 : decode cX9_lostIfBySweeps 7 = .ok (.ireturn, 1) := by decide +kernel
set_option maxRecDepth 20000 in
theorem ggX9_plant_X9_isCell : GoodIn wsX9_plant wsX9_isCell := goodIn_r _ [6, 7, 8, 5, 9] (by decide +kernel) (by decide +kernel)
set_option maxRecDepth 20000 in
theorem gX9_plant_X9_isCell : GoodIn wsX9_plant (va_wsS RX9 98 yX9_isCell wsX9_isCell) := goodIn_app (goodIn_of _ (by decide +kernel)) ggX9_plant_X9_isCell
set_option maxRecDepth 20000 in
theorem ggX9_plant_X9_at : GoodIn wsX9_plant wsX9_at := goodIn_r _ [12] (by decide +kernel) (by decide +kernel)
set_option maxRecDepth 20000 in
theorem gX9_plant_X9_at : GoodIn wsX9_plant (va_wsS RX9 108 yX9_at wsX9_at) := goodIn_app (goodIn_of _ (by decide +kernel)) ggX9_plant_X9_at
theorem dX9_plant_0 : decode cX9_plant 0 = .ok (.aload_n 0, 1) := by decide +kernel
theorem dX9_plant_1 : decode cX9_plant 1 = .ok (.iload_n 1, 1) := by decide +kernel
theorem dX9_plant_2 : decode cX9_plant 2 = .ok (.iload_n 2, 1) := by decide +kernel
theorem dX9_plant_3 : decode cX9_plant 3 = .ok (.invokestatic 98, 3) := by decide +kernel
theorem dX9_plant_6 : decode cX9_plant 6 = .ok (.ifCond .ne 7, 3) := by decide +kernel
theorem dX9_plant_9 : decode cX9_plant 9 = .ok (.iconst 1, 1) := by decide +kernel
theorem dX9_plant_10 : decode cX9_plant 10 = .ok (.goto 21, 3) := by decide +kernel
theorem dX9_plant_13 : decode cX9_plant 13 = .ok (.aload_n 0, 1) := by decide +kernel
theorem dX9_plant_14 : decode cX9_plant 14 = .ok (.getfield 34, 3) := by decide +kernel
theorem dX9_plant_17 : decode cX9_plant 17 = .ok (.iload_n 1, 1) := by decide +kernel
theorem dX9_plant_18 : decode cX9_plant 18 = .ok (.iload_n 2, 1) := by decide +kernel
theorem dX9_plant_19 : decode cX9_plant 19 = .ok (.invokestatic 108, 3) := by decide +kernel
theorem dX9_plant_22 : decode cX9_plant 22 = .ok (.baload, 1) := by decide +kernel
theorem dX9_plant_23 : decode cX9_plant 23 = .ok (.ifCond .eq 7, 3) := by decide +kernel
theorem dX9_plant_26 : decode cX9_plant 26 = .ok (.iconst 2, 1) := by decide +kernel
theorem dX9_plant_27 : decode cX9_plant 27 = .ok (.goto 4, 3) := by decide +kernel
theorem dX9_plant_30 : decode cX9_plant 30 = .ok (.iconst 0, 1) := by decide +kernel
theorem dX9_plant_31 : decode cX9_plant 31 = .ok (.putfield 53, 3) := by decide +kernel
theorem dX9_plant_34 : decode cX9_plant 34 = .ok (.aload_n 0, 1) := by decide +kernel
theorem dX9_plant_35 : decode cX9_plant 35 = .ok (.getfield 53, 3) := by decide +kernel
theorem dX9_plant_38 : decode cX9_plant 38 = .ok (.ifCond .le 5, 3) := by decide +kernel
theorem dX9_plant_41 : decode cX9_plant 41 = .ok (.iconst 0, 1) := by decide +kernel
theorem dX9_plant_42 : decode cX9_plant 42 = .ok (.ireturn, 1) := by decide +kernel
theorem dX9_plant_43 : decode cX9_plant 43 = .ok (.aload_n 0, 1) := by decide +kernel
theorem dX9_plant_44 : decode cX9_plant 44 = .ok (.getfield 34, 3) := by decide +kernel
theorem dX9_plant_47 : decode cX9_plant 47 = .ok (.iload_n 1, 1) := by decide +kernel
theorem dX9_plant_48 : decode cX9_plant 48 = .ok (.iload_n 2, 1) := by decide +kernel
theorem dX9_plant_49 : decode cX9_plant 49 = .ok (.invokestatic 108, 3) := by decide +kernel
theorem dX9_plant_52 : decode cX9_plant 52 = .ok (.iconst 1, 1) := by decide +kernel
theorem dX9_plant_53 : decode cX9_plant 53 = .ok (.bastore, 1) := by decide +kernel
theorem dX9_plant_54 : decode cX9_plant 54 = .ok (.iconst 0, 1) := by decide +kernel
theorem dX9_plant_55 : decode cX9_plant 55 = .ok (.istore_n 3, 1) := by decide +kernel
theorem dX9_plant_56 : decode cX9_plant 56 = .ok (.iconst 0, 1) := by decide +kernel
theorem dX9_plant_57 : decode cX9_plant 57 = .ok (.istore 4, 2) := by decide +kernel
theorem dX9_plant_59 : decode cX9_plant 59 = .ok (.iload 4, 2) := by decide +kernel
theorem dX9_plant_61 : decode cX9_plant 61 = .ok (.bipush 42, 2) := by decide +kernel
theorem dX9_plant_63 : decode cX9_plant 63 = .ok (.if_icmp .ge 27, 3) := by decide +kernel
theorem dX9_plant_66 : decode cX9_plant 66 = .ok (.iload_n 3, 1) := by decide +kernel
theorem dX9_plant_67 : decode cX9_plant 67 = .ok (.aload_n 0, 1) := by decide +kernel
theorem dX9_plant_68 : decode cX9_plant 68 = .ok (.getfield 34, 3) := by decide +kernel
theorem dX9_plant_71 : decode cX9_plant 71 = .ok (.iload 4, 2) := by decide +kernel
theorem dX9_plant_73 : decode cX9_plant 73 = .ok (.baload, 1) := by decide +kernel
theorem dX9_plant_74 : decode cX9_plant 74 = .ok (.ifCond .eq 7, 3) := by decide +kernel
theorem dX9_plant_77 : decode cX9_plant 77 = .ok (.iconst 1, 1) := by decide +kernel
theorem dX9_plant_78 : decode cX9_plant 78 = .ok (.goto 4, 3) := by decide +kernel
theorem dX9_plant_81 : decode cX9_plant 81 = .ok (.iconst 0, 1) := by decide +kernel
theorem dX9_plant_82 : decode cX9_plant 82 = .ok (.iadd, 1) := by decide +kernel
theorem dX9_plant_83 : decode cX9_plant 83 = .ok (.istore_n 3, 1) := by decide +kernel
theorem dX9_plant_84 : decode cX9_plant 84 = .ok (.iinc 4 1, 3) := by decide +kernel
theorem dX9_plant_87 : decode cX9_plant 87 = .ok (.goto (-28), 3) := by decide +kernel
theorem dX9_plant_90 : decode cX9_plant 90 = .ok (.iload_n 3, 1) := by decide +kernel
theorem dX9_plant_91 : decode cX9_plant 91 = .ok (.ireturn, 1) := by decide +kernel
set_option maxRecDepth 20000 in
theorem ggX9_uproot_X9_isCell : GoodIn wsX9_uproot wsX9_isCell := goodIn_r _ [6, 7, 8, 5, 9] (by decide +kernel) (by decide +kernel)
set_option maxRecDepth 20000 in
theorem gX9_uproot_X9_isCell : GoodIn wsX9_uproot (va_wsS RX9 98 yX9_isCell wsX9_isCell) := goodIn_app (goodIn_of _ (by decide +kernel)) ggX9_uproot_X9_isCell
set_option maxRecDepth 20000 in
theorem ggX9_uproot_X9_at : GoodIn wsX9_uproot wsX9_at := goodIn_r _ [12] (by decide +kernel) (by decide +kernel)
set_option maxRecDepth 20000 in
theorem gX9_uproot_X9_at : GoodIn wsX9_uproot (va_wsS RX9 108 yX9_at wsX9_at) := goodIn_app (goodIn_of _ (by decide +kernel)) ggX9_uproot_X9_at
set_option maxRecDepth 20000 in
theorem ggX9_uproot_X9_settles : GoodIn wsX9_uproot wsX9_settles := goodIn_r _ [16, 17, 18, 19, 20, 21, 5, 22, 1, 23, 24, 25, 26, 27, 28, 29, 30, 31, 32, 33, 34, 35, 36, 37, 38, 39, 40, 41, 42, 43, 44, 45, 46, 47, 48, 49, 50, 51, 52, 53, 54, 55, 56, 57, 58, 59, 60, 61] (by decide +kernel) (by decide +kernel)
set_option maxRecDepth 20000 in
theorem gX9_uproot_X9_settles : GoodIn wsX9_uproot (wsV RX9 101 RX9 yX9_settles wsX9_settles) := goodIn_app (goodIn_of _ (by decide +kernel)) ggX9_uproot_X9_settles
theorem dX9_uproot_0 : decode cX9_uproot 0 = .ok (.aload_n 0, 1) := by decide +kernel
theorem dX9_uproot_1 : decode cX9_uproot 1 = .ok (.iload_n 1, 1) := by decide +kernel
theorem dX9_uproot_2 : decode cX9_uproot 2 = .ok (.iload_n 2, 1) := by decide +kernel
theorem dX9_uproot_3 : decode cX9_uproot 3 = .ok (.invokestatic 98, 3) := by decide +kernel
theorem dX9_uproot_6 : decode cX9_uproot 6 = .ok (.ifCond .ne 7, 3) := by decide +kernel
theorem dX9_uproot_9 : decode cX9_uproot 9 = .ok (.iconst 1, 1) := by decide +kernel
theorem dX9_uproot_10 : decode cX9_uproot 10 = .ok (.goto 21, 3) := by decide +kernel
theorem dX9_uproot_13 : decode cX9_uproot 13 = .ok (.aload_n 0, 1) := by decide +kernel
theorem dX9_uproot_14 : decode cX9_uproot 14 = .ok (.getfield 34, 3) := by decide +kernel
theorem dX9_uproot_17 : decode cX9_uproot 17 = .ok (.iload_n 1, 1) := by decide +kernel
theorem dX9_uproot_18 : decode cX9_uproot 18 = .ok (.iload_n 2, 1) := by decide +kernel
theorem dX9_uproot_19 : decode cX9_uproot 19 = .ok (.invokestatic 108, 3) := by decide +kernel
theorem dX9_uproot_22 : decode cX9_uproot 22 = .ok (.baload, 1) := by decide +kernel
theorem dX9_uproot_23 : decode cX9_uproot 23 = .ok (.ifCond .ne 7, 3) := by decide +kernel
theorem dX9_uproot_26 : decode cX9_uproot 26 = .ok (.iconst 2, 1) := by decide +kernel
theorem dX9_uproot_27 : decode cX9_uproot 27 = .ok (.goto 4, 3) := by decide +kernel
theorem dX9_uproot_30 : decode cX9_uproot 30 = .ok (.iconst 0, 1) := by decide +kernel
theorem dX9_uproot_31 : decode cX9_uproot 31 = .ok (.putfield 53, 3) := by decide +kernel
theorem dX9_uproot_34 : decode cX9_uproot 34 = .ok (.aload_n 0, 1) := by decide +kernel
theorem dX9_uproot_35 : decode cX9_uproot 35 = .ok (.getfield 53, 3) := by decide +kernel
theorem dX9_uproot_38 : decode cX9_uproot 38 = .ok (.ifCond .le 5, 3) := by decide +kernel
theorem dX9_uproot_41 : decode cX9_uproot 41 = .ok (.iconst 0, 1) := by decide +kernel
theorem dX9_uproot_42 : decode cX9_uproot 42 = .ok (.ireturn, 1) := by decide +kernel
theorem dX9_uproot_43 : decode cX9_uproot 43 = .ok (.aload_n 0, 1) := by decide +kernel
theorem dX9_uproot_44 : decode cX9_uproot 44 = .ok (.getfield 34, 3) := by decide +kernel
theorem dX9_uproot_47 : decode cX9_uproot 47 = .ok (.iload_n 1, 1) := by decide +kernel
theorem dX9_uproot_48 : decode cX9_uproot 48 = .ok (.iload_n 2, 1) := by decide +kernel
theorem dX9_uproot_49 : decode cX9_uproot 49 = .ok (.invokestatic 108, 3) := by decide +kernel
theorem dX9_uproot_52 : decode cX9_uproot 52 = .ok (.iconst 0, 1) := by decide +kernel
theorem dX9_uproot_53 : decode cX9_uproot 53 = .ok (.bastore, 1) := by decide +kernel
theorem dX9_uproot_54 : decode cX9_uproot 54 = .ok (.aload_n 0, 1) := by decide +kernel
theorem dX9_uproot_55 : decode cX9_uproot 55 = .ok (.invokevirtual 101, 3) := by decide +kernel
theorem dX9_uproot_58 : decode cX9_uproot 58 = .ok (.ireturn, 1) := by decide +kernel
set_option maxRecDepth 20000 in
theorem ggX9_lay_X9_behind : GoodIn wsX9_lay wsX9_behind := goodIn_r _ [6] (by decide +kernel) (by decide +kernel)
set_option maxRecDepth 20000 in
theorem gX9_lay_X9_behind : GoodIn wsX9_lay (va_wsS RX9 79 yX9_behind wsX9_behind) := goodIn_app (goodIn_of _ (by decide +kernel)) ggX9_lay_X9_behind
set_option maxRecDepth 20000 in
theorem ggX9_lay_X9_opposite : GoodIn wsX9_lay wsX9_opposite := goodIn_r _ [9] (by decide +kernel) (by decide +kernel)
set_option maxRecDepth 20000 in
theorem gX9_lay_X9_opposite : GoodIn wsX9_lay (va_wsS RX9 87 yX9_opposite wsX9_opposite) := goodIn_app (goodIn_of _ (by decide +kernel)) ggX9_lay_X9_opposite
theorem dX9_lay_0 : decode cX9_lay 0 = .ok (.iload_n 1, 1) := by decide +kernel
theorem dX9_lay_1 : decode cX9_lay 1 = .ok (.iload_n 2, 1) := by decide +kernel
theorem dX9_lay_2 : decode cX9_lay 2 = .ok (.invokestatic 79, 3) := by decide +kernel
theorem dX9_lay_5 : decode cX9_lay 5 = .ok (.istore 4, 2) := by decide +kernel
theorem dX9_lay_7 : decode cX9_lay 7 = .ok (.aload_n 0, 1) := by decide +kernel
theorem dX9_lay_8 : decode cX9_lay 8 = .ok (.getfield 38, 3) := by decide +kernel
theorem dX9_lay_11 : decode cX9_lay 11 = .ok (.iconst 4, 1) := by decide +kernel
theorem dX9_lay_12 : decode cX9_lay 12 = .ok (.iload_n 1, 1) := by decide +kernel
theorem dX9_lay_13 : decode cX9_lay 13 = .ok (.imul, 1) := by decide +kernel
theorem dX9_lay_14 : decode cX9_lay 14 = .ok (.iload_n 2, 1) := by decide +kernel
theorem dX9_lay_15 : decode cX9_lay 15 = .ok (.iadd, 1) := by decide +kernel
theorem dX9_lay_16 : decode cX9_lay 16 = .ok (.iload_n 3, 1) := by decide +kernel
theorem dX9_lay_17 : decode cX9_lay 17 = .ok (.bastore, 1) := by decide +kernel
theorem dX9_lay_18 : decode cX9_lay 18 = .ok (.iload 4, 2) := by decide +kernel
theorem dX9_lay_20 : decode cX9_lay 20 = .ok (.ifCond .lt 18, 3) := by decide +kernel
theorem dX9_lay_23 : decode cX9_lay 23 = .ok (.aload_n 0, 1) := by decide +kernel
theorem dX9_lay_24 : decode cX9_lay 24 = .ok (.getfield 38, 3) := by decide +kernel
theorem dX9_lay_27 : decode cX9_lay 27 = .ok (.iconst 4, 1) := by decide +kernel
theorem dX9_lay_28 : decode cX9_lay 28 = .ok (.iload 4, 2) := by decide +kernel
theorem dX9_lay_30 : decode cX9_lay 30 = .ok (.imul, 1) := by decide +kernel
theorem dX9_lay_31 : decode cX9_lay 31 = .ok (.iload_n 2, 1) := by decide +kernel
theorem dX9_lay_32 : decode cX9_lay 32 = .ok (.invokestatic 87, 3) := by decide +kernel
theorem dX9_lay_35 : decode cX9_lay 35 = .ok (.iadd, 1) := by decide +kernel
theorem dX9_lay_36 : decode cX9_lay 36 = .ok (.iload_n 3, 1) := by decide +kernel
theorem dX9_lay_37 : decode cX9_lay 37 = .ok (.bastore, 1) := by decide +kernel
theorem dX9_lay_38 : decode cX9_lay 38 = .ok (.aload_n 0, 1) := by decide +kernel
theorem dX9_lay_39 : decode cX9_lay 39 = .ok (.dup, 1) := by decide +kernel
theorem dX9_lay_40 : decode cX9_lay 40 = .ok (.getfield 63, 3) := by decide +kernel
theorem dX9_lay_43 : decode cX9_lay 43 = .ok (.iload_n 3, 1) := by decide +kernel
theorem dX9_lay_44 : decode cX9_lay 44 = .ok (.ifCond .eq 7, 3) := by decide +kernel
theorem dX9_lay_47 : decode cX9_lay 47 = .ok (.iconst 1, 1) := by decide +kernel
theorem dX9_lay_48 : decode cX9_lay 48 = .ok (.goto 4, 3) := by decide +kernel
theorem dX9_lay_51 : decode cX9_lay 51 = .ok (.iconst (-1), 1) := by decide +kernel
theorem dX9_lay_52 : decode cX9_lay 52 = .ok (.iadd, 1) := by decide +kernel
theorem dX9_lay_53 : decode cX9_lay 53 = .ok (.putfield 63, 3) := by decide +kernel
theorem dX9_lay_56 : decode cX9_lay 56 = .ok (.return_, 1) := by decide +kernel
set_option maxRecDepth 20000 in
theorem ggX9_wets_X9_isOpen : GoodIn wsX9_wets wsX9_isOpen := goodIn_r _ [7, 8, 9, 10, 6, 11, 12, 13, 14, 15, 16, 17, 18, 19, 20, 21, 22, 23, 24, 25, 26, 27, 28, 29, 30, 31, 32] (by decide +kernel) (by decide +kernel)
set_option maxRecDepth 20000 in
theorem gX9_wets_X9_isOpen : GoodIn wsX9_wets (wsV RX9 83 RX9 yX9_isOpen wsX9_isOpen) := goodIn_app (goodIn_of _ (by decide +kernel)) ggX9_wets_X9_isOpen
set_option maxRecDepth 20000 in
theorem ggX9_wets_X9_behind : GoodIn wsX9_wets wsX9_behind := goodIn_r _ [11] (by decide +kernel) (by decide +kernel)
set_option maxRecDepth 20000 in
theorem gX9_wets_X9_behind : GoodIn wsX9_wets (va_wsS RX9 79 yX9_behind wsX9_behind) := goodIn_app (goodIn_of _ (by decide +kernel)) ggX9_wets_X9_behind
theorem dX9_wets_0 : decode cX9_wets 0 = .ok (.iconst 0, 1) := by decide +kernel
theorem dX9_wets_1 : decode cX9_wets 1 = .ok (.istore_n 2, 1) := by decide +kernel
theorem dX9_wets_2 : decode cX9_wets 2 = .ok (.iload_n 2, 1) := by decide +kernel
theorem dX9_wets_3 : decode cX9_wets 3 = .ok (.bipush 42, 2) := by decide +kernel
theorem dX9_wets_5 : decode cX9_wets 5 = .ok (.if_icmp .ge 16, 3) := by decide +kernel
theorem dX9_wets_8 : decode cX9_wets 8 = .ok (.aload_n 0, 1) := by decide +kernel
theorem dX9_wets_9 : decode cX9_wets 9 = .ok (.getfield 41, 3) := by decide +kernel
theorem dX9_wets_12 : decode cX9_wets 12 = .ok (.iload_n 2, 1) := by decide +kernel
theorem dX9_wets_13 : decode cX9_wets 13 = .ok (.iconst 0, 1) := by decide +kernel
theorem dX9_wets_14 : decode cX9_wets 14 = .ok (.bastore, 1) := by decide +kernel
theorem dX9_wets_15 : decode cX9_wets 15 = .ok (.iinc 2 1, 3) := by decide +kernel
theorem dX9_wets_18 : decode cX9_wets 18 = .ok (.goto (-16), 3) := by decide +kernel
theorem dX9_wets_21 : decode cX9_wets 21 = .ok (.iconst 0, 1) := by decide +kernel
theorem dX9_wets_22 : decode cX9_wets 22 = .ok (.istore_n 2, 1) := by decide +kernel
theorem dX9_wets_23 : decode cX9_wets 23 = .ok (.bipush (-2), 2) := by decide +kernel
theorem dX9_wets_25 : decode cX9_wets 25 = .ok (.istore_n 3, 1) := by decide +kernel
theorem dX9_wets_26 : decode cX9_wets 26 = .ok (.iload_n 3, 1) := by decide +kernel
theorem dX9_wets_27 : decode cX9_wets 27 = .ok (.iload_n 2, 1) := by decide +kernel
theorem dX9_wets_28 : decode cX9_wets 28 = .ok (.if_icmp .eq 131, 3) := by decide +kernel
theorem dX9_wets_31 : decode cX9_wets 31 = .ok (.iload_n 2, 1) := by decide +kernel
theorem dX9_wets_32 : decode cX9_wets 32 = .ok (.istore_n 3, 1) := by decide +kernel
theorem dX9_wets_33 : decode cX9_wets 33 = .ok (.iconst 0, 1) := by decide +kernel
theorem dX9_wets_34 : decode cX9_wets 34 = .ok (.istore 4, 2) := by decide +kernel
theorem dX9_wets_36 : decode cX9_wets 36 = .ok (.iload 4, 2) := by decide +kernel
theorem dX9_wets_38 : decode cX9_wets 38 = .ok (.bipush 42, 2) := by decide +kernel
theorem dX9_wets_40 : decode cX9_wets 40 = .ok (.if_icmp .ge 116, 3) := by decide +kernel
theorem dX9_wets_43 : decode cX9_wets 43 = .ok (.iconst 0, 1) := by decide +kernel
theorem dX9_wets_44 : decode cX9_wets 44 = .ok (.istore 5, 2) := by decide +kernel
theorem dX9_wets_46 : decode cX9_wets 46 = .ok (.iconst 0, 1) := by decide +kernel
theorem dX9_wets_47 : decode cX9_wets 47 = .ok (.istore 6, 2) := by decide +kernel
theorem dX9_wets_49 : decode cX9_wets 49 = .ok (.iload 6, 2) := by decide +kernel
theorem dX9_wets_51 : decode cX9_wets 51 = .ok (.iconst 4, 1) := by decide +kernel
theorem dX9_wets_52 : decode cX9_wets 52 = .ok (.if_icmp .ge 58, 3) := by decide +kernel
theorem dX9_wets_55 : decode cX9_wets 55 = .ok (.iload 5, 2) := by decide +kernel
theorem dX9_wets_57 : decode cX9_wets 57 = .ok (.ifCond .ne 40, 3) := by decide +kernel
theorem dX9_wets_60 : decode cX9_wets 60 = .ok (.aload_n 0, 1) := by decide +kernel
theorem dX9_wets_61 : decode cX9_wets 61 = .ok (.iload 4, 2) := by decide +kernel
theorem dX9_wets_63 : decode cX9_wets 63 = .ok (.iload 6, 2) := by decide +kernel
theorem dX9_wets_65 : decode cX9_wets 65 = .ok (.invokevirtual 83, 3) := by decide +kernel
theorem dX9_wets_68 : decode cX9_wets 68 = .ok (.ifCond .eq 33, 3) := by decide +kernel
theorem dX9_wets_71 : decode cX9_wets 71 = .ok (.iload 4, 2) := by decide +kernel
theorem dX9_wets_73 : decode cX9_wets 73 = .ok (.iload 6, 2) := by decide +kernel
theorem dX9_wets_75 : decode cX9_wets 75 = .ok (.invokestatic 79, 3) := by decide +kernel
theorem dX9_wets_78 : decode cX9_wets 78 = .ok (.iconst (-1), 1) := by decide +kernel
theorem dX9_wets_79 : decode cX9_wets 79 = .ok (.if_icmp .eq 18, 3) := by decide +kernel
theorem dX9_wets_82 : decode cX9_wets 82 = .ok (.aload_n 0, 1) := by decide +kernel
theorem dX9_wets_83 : decode cX9_wets 83 = .ok (.getfield 41, 3) := by decide +kernel
theorem dX9_wets_86 : decode cX9_wets 86 = .ok (.iload 4, 2) := by decide +kernel
theorem dX9_wets_88 : decode cX9_wets 88 = .ok (.iload 6, 2) := by decide +kernel
theorem dX9_wets_90 : decode cX9_wets 90 = .ok (.invokestatic 79, 3) := by decide +kernel
theorem dX9_wets_93 : decode cX9_wets 93 = .ok (.baload, 1) := by decide +kernel
theorem dX9_wets_94 : decode cX9_wets 94 = .ok (.ifCond .eq 7, 3) := by decide +kernel
theorem dX9_wets_97 : decode cX9_wets 97 = .ok (.iconst 1, 1) := by decide +kernel
theorem dX9_wets_98 : decode cX9_wets 98 = .ok (.goto 4, 3) := by decide +kernel
theorem dX9_wets_101 : decode cX9_wets 101 = .ok (.iconst 0, 1) := by decide +kernel
theorem dX9_wets_102 : decode cX9_wets 102 = .ok (.istore 5, 2) := by decide +kernel
theorem dX9_wets_104 : decode cX9_wets 104 = .ok (.iinc 6 1, 3) := by decide +kernel
theorem dX9_wets_107 : decode cX9_wets 107 = .ok (.goto (-58), 3) := by decide +kernel
theorem dX9_wets_110 : decode cX9_wets 110 = .ok (.aload_n 0, 1) := by decide +kernel
theorem dX9_wets_111 : decode cX9_wets 111 = .ok (.getfield 41, 3) := by decide +kernel
theorem dX9_wets_114 : decode cX9_wets 114 = .ok (.iload 4, 2) := by decide +kernel
theorem dX9_wets_116 : decode cX9_wets 116 = .ok (.baload, 1) := by decide +kernel
theorem dX9_wets_117 : decode cX9_wets 117 = .ok (.ifCond .ne 33, 3) := by decide +kernel
theorem dX9_wets_120 : decode cX9_wets 120 = .ok (.iload 5, 2) := by decide +kernel
theorem dX9_wets_122 : decode cX9_wets 122 = .ok (.ifCond .eq 28, 3) := by decide +kernel
theorem dX9_wets_125 : decode cX9_wets 125 = .ok (.aload_n 0, 1) := by decide +kernel
theorem dX9_wets_126 : decode cX9_wets 126 = .ok (.getfield 7, 3) := by decide +kernel
theorem dX9_wets_129 : decode cX9_wets 129 = .ok (.iload 4, 2) := by decide +kernel
theorem dX9_wets_131 : decode cX9_wets 131 = .ok (.iaload, 1) := by decide +kernel
theorem dX9_wets_132 : decode cX9_wets 132 = .ok (.iload_n 1, 1) := by decide +kernel
theorem dX9_wets_133 : decode cX9_wets 133 = .ok (.if_icmp .lt 6, 3) := by decide +kernel
theorem dX9_wets_136 : decode cX9_wets 136 = .ok (.goto 14, 3) := by decide +kernel
theorem dX9_wets_139 : decode cX9_wets 139 = .ok (.aload_n 0, 1) := by decide +kernel
theorem dX9_wets_140 : decode cX9_wets 140 = .ok (.getfield 41, 3) := by decide +kernel
theorem dX9_wets_143 : decode cX9_wets 143 = .ok (.iload 4, 2) := by decide +kernel
theorem dX9_wets_145 : decode cX9_wets 145 = .ok (.iconst 1, 1) := by decide +kernel
theorem dX9_wets_146 : decode cX9_wets 146 = .ok (.bastore, 1) := by decide +kernel
theorem dX9_wets_147 : decode cX9_wets 147 = .ok (.iinc 2 1, 3) := by decide +kernel
theorem dX9_wets_150 : decode cX9_wets 150 = .ok (.iinc 4 1, 3) := by decide +kernel
theorem dX9_wets_153 : decode cX9_wets 153 = .ok (.goto (-117), 3) := by decide +kernel
theorem dX9_wets_156 : decode cX9_wets 156 = .ok (.goto (-130), 3) := by decide +kernel
theorem dX9_wets_159 : decode cX9_wets 159 = .ok (.iload_n 2, 1) := by decide +kernel
theorem dX9_wets_160 : decode cX9_wets 160 = .ok (.ireturn, 1) := by decide +kernel
set_option maxRecDepth 20000 in
theorem ggX9_wrongSide_X9_isCell : GoodIn wsX9_wrongSide wsX9_isCell := goodIn_r _ [4, 5, 6, 3, 7] (by decide +kernel) (by decide +kernel)
set_option maxRecDepth 20000 in
theorem gX9_wrongSide_X9_isCell : GoodIn wsX9_wrongSide (va_wsS RX9 98 yX9_isCell wsX9_isCell) := goodIn_app (goodIn_of _ (by decide +kernel)) ggX9_wrongSide_X9_isCell
set_option maxRecDepth 20000 in
theorem ggX9_wrongSide_X9_sideOf : GoodIn wsX9_wrongSide wsX9_sideOf := goodIn_r _ [10] (by decide +kernel) (by decide +kernel)
set_option maxRecDepth 20000 in
theorem gX9_wrongSide_X9_sideOf : GoodIn wsX9_wrongSide (va_wsS RX9 127 yX9_sideOf wsX9_sideOf) := goodIn_app (goodIn_of _ (by decide +kernel)) ggX9_wrongSide_X9_sideOf
theorem dX9_wrongSide_0 : decode cX9_wrongSide 0 = .ok (.iload_n 1, 1) := by decide +kernel
theorem dX9_wrongSide_1 : decode cX9_wrongSide 1 = .ok (.iload_n 2, 1) := by decide +kernel
theorem dX9_wrongSide_2 : decode cX9_wrongSide 2 = .ok (.invokestatic 98, 3) := by decide +kernel
theorem dX9_wrongSide_5 : decode cX9_wrongSide 5 = .ok (.ifCond .ne 7, 3) := by decide +kernel
theorem dX9_wrongSide_8 : decode cX9_wrongSide 8 = .ok (.iconst 1, 1) := by decide +kernel
theorem dX9_wrongSide_9 : decode cX9_wrongSide 9 = .ok (.goto 15, 3) := by decide +kernel
theorem dX9_wrongSide_12 : decode cX9_wrongSide 12 = .ok (.iload_n 3, 1) := by decide +kernel
theorem dX9_wrongSide_13 : decode cX9_wrongSide 13 = .ok (.invokestatic 127, 3) := by decide +kernel
theorem dX9_wrongSide_16 : decode cX9_wrongSide 16 = .ok (.ifCond .ge 7, 3) := by decide +kernel
theorem dX9_wrongSide_19 : decode cX9_wrongSide 19 = .ok (.iconst 2, 1) := by decide +kernel
theorem dX9_wrongSide_20 : decode cX9_wrongSide 20 = .ok (.goto 4, 3) := by decide +kernel
theorem dX9_wrongSide_23 : decode cX9_wrongSide 23 = .ok (.iconst 0, 1) := by decide +kernel
theorem dX9_wrongSide_24 : decode cX9_wrongSide 24 = .ok (.ireturn, 1) := by decide +kernel
set_option maxRecDepth 20000 in
theorem ggX9_addWall_X9_at : GoodIn wsX9_addWall wsX9_at := goodIn_r _ [7] (by decide +kernel) (by decide +kernel)
set_option maxRecDepth 20000 in
theorem gX9_addWall_X9_at : GoodIn wsX9_addWall (va_wsS RX9 108 yX9_at wsX9_at) := goodIn_app (goodIn_of _ (by decide +kernel)) ggX9_addWall_X9_at
set_option maxRecDepth 20000 in
theorem ggX9_addWall_X9_wrongSide : GoodIn wsX9_addWall wsX9_wrongSide := goodIn_r _ [11, 12, 13, 6, 14, 15, 16, 17, 18, 19, 20] (by decide +kernel) (by decide +kernel)
set_option maxRecDepth 20000 in
theorem gX9_addWall_X9_wrongSide : GoodIn wsX9_addWall (wsV RX9 131 RX9 yX9_wrongSide wsX9_wrongSide) := goodIn_app (goodIn_of _ (by decide +kernel)) ggX9_addWall_X9_wrongSide
set_option maxRecDepth 20000 in
theorem ggX9_addWall_X9_sideOf : GoodIn wsX9_addWall wsX9_sideOf := goodIn_r _ [20] (by decide +kernel) (by decide +kernel)
set_option maxRecDepth 20000 in
theorem gX9_addWall_X9_sideOf : GoodIn wsX9_addWall (va_wsS RX9 127 yX9_sideOf wsX9_sideOf) := goodIn_app (goodIn_of _ (by decide +kernel)) ggX9_addWall_X9_sideOf
set_option maxRecDepth 20000 in
theorem ggX9_addWall_X9_isOpen : GoodIn wsX9_addWall wsX9_isOpen := goodIn_r _ [24, 25, 26, 27, 6, 28, 42, 43, 44, 45, 46, 47, 48, 49, 50, 51, 52, 53, 54, 55, 56, 57, 58, 59, 60, 61, 62] (by decide +kernel) (by decide +kernel)
set_option maxRecDepth 20000 in
theorem gX9_addWall_X9_isOpen : GoodIn wsX9_addWall (wsV RX9 83 RX9 yX9_isOpen wsX9_isOpen) := goodIn_app (goodIn_of _ (by decide +kernel)) ggX9_addWall_X9_isOpen
set_option maxRecDepth 20000 in
theorem ggX9_addWall_X9_lay : GoodIn wsX9_addWall wsX9_lay := goodIn_r _ [32, 25, 3, 26, 27, 6, 28, 33, 34, 35, 42, 43, 44, 45, 46, 47, 48, 49, 50, 51, 52, 53, 54, 55, 56, 57, 58, 59, 60, 61, 62] (by decide +kernel) (by decide +kernel)
set_option maxRecDepth 20000 in
theorem gX9_addWall_X9_lay : GoodIn wsX9_addWall (wsV RX9 135 RX9 yX9_lay wsX9_lay) := goodIn_app (goodIn_of _ (by decide +kernel)) ggX9_addWall_X9_lay
set_option maxRecDepth 20000 in
theorem ggX9_addWall_X9_wets : GoodIn wsX9_addWall wsX9_wets := goodIn_r _ [39, 40, 41, 21, 22, 23, 6, 24, 25, 26, 27, 28, 42, 43, 44, 45, 46, 47, 48, 49, 50, 51, 52, 53, 54, 55, 56, 57, 58, 59, 60, 61, 62] (by decide +kernel) (by decide +kernel)
set_option maxRecDepth 20000 in
theorem gX9_addWall_X9_wets : GoodIn wsX9_addWall (wsV RX9 140 RX9 yX9_wets wsX9_wets) := goodIn_app (goodIn_of _ (by decide +kernel)) ggX9_addWall_X9_wets
theorem dX9_addWall_0 : decode cX9_addWall 0 = .ok (.iload_n 1, 1) := by decide +kernel
theorem dX9_addWall_1 : decode cX9_addWall 1 = .ok (.iload_n 2, 1) := by decide +kernel
theorem dX9_addWall_2 : decode cX9_addWall 2 = .ok (.invokestatic 108, 3) := by decide +kernel
theorem dX9_addWall_5 : decode cX9_addWall 5 = .ok (.istore 4, 2) := by decide +kernel
theorem dX9_addWall_7 : decode cX9_addWall 7 = .ok (.aload_n 0, 1) := by decide +kernel
theorem dX9_addWall_8 : decode cX9_addWall 8 = .ok (.aload_n 0, 1) := by decide +kernel
theorem dX9_addWall_9 : decode cX9_addWall 9 = .ok (.iload_n 1, 1) := by decide +kernel
theorem dX9_addWall_10 : decode cX9_addWall 10 = .ok (.iload_n 2, 1) := by decide +kernel
theorem dX9_addWall_11 : decode cX9_addWall 11 = .ok (.iload_n 3, 1) := by decide +kernel
theorem dX9_addWall_12 : decode cX9_addWall 12 = .ok (.invokevirtual 131, 3) := by decide +kernel
theorem dX9_addWall_15 : decode cX9_addWall 15 = .ok (.putfield 53, 3) := by decide +kernel
theorem dX9_addWall_18 : decode cX9_addWall 18 = .ok (.aload_n 0, 1) := by decide +kernel
theorem dX9_addWall_19 : decode cX9_addWall 19 = .ok (.getfield 53, 3) := by decide +kernel
theorem dX9_addWall_22 : decode cX9_addWall 22 = .ok (.ifCond .ne 21, 3) := by decide +kernel
theorem dX9_addWall_25 : decode cX9_addWall 25 = .ok (.aload_n 0, 1) := by decide +kernel
theorem dX9_addWall_26 : decode cX9_addWall 26 = .ok (.iload 4, 2) := by decide +kernel
theorem dX9_addWall_28 : decode cX9_addWall 28 = .ok (.iload_n 3, 1) := by decide +kernel
theorem dX9_addWall_29 : decode cX9_addWall 29 = .ok (.invokestatic 127, 3) := by decide +kernel
theorem dX9_addWall_32 : decode cX9_addWall 32 = .ok (.invokevirtual 83, 3) := by decide +kernel
theorem dX9_addWall_35 : decode cX9_addWall 35 = .ok (.ifCond .ne 8, 3) := by decide +kernel
theorem dX9_addWall_38 : decode cX9_addWall 38 = .ok (.aload_n 0, 1) := by decide +kernel
theorem dX9_addWall_39 : decode cX9_addWall 39 = .ok (.iconst 3, 1) := by decide +kernel
theorem dX9_addWall_40 : decode cX9_addWall 40 = .ok (.putfield 53, 3) := by decide +kernel
theorem dX9_addWall_43 : decode cX9_addWall 43 = .ok (.aload_n 0, 1) := by decide +kernel
theorem dX9_addWall_44 : decode cX9_addWall 44 = .ok (.getfield 53, 3) := by decide +kernel
theorem dX9_addWall_47 : decode cX9_addWall 47 = .ok (.ifCond .le 5, 3) := by decide +kernel
theorem dX9_addWall_50 : decode cX9_addWall 50 = .ok (.iconst 0, 1) := by decide +kernel
theorem dX9_addWall_51 : decode cX9_addWall 51 = .ok (.ireturn, 1) := by decide +kernel
theorem dX9_addWall_52 : decode cX9_addWall 52 = .ok (.aload_n 0, 1) := by decide +kernel
theorem dX9_addWall_53 : decode cX9_addWall 53 = .ok (.iload 4, 2) := by decide +kernel
theorem dX9_addWall_55 : decode cX9_addWall 55 = .ok (.iload_n 3, 1) := by decide +kernel
theorem dX9_addWall_56 : decode cX9_addWall 56 = .ok (.invokestatic 127, 3) := by decide +kernel
theorem dX9_addWall_59 : decode cX9_addWall 59 = .ok (.iconst 1, 1) := by decide +kernel
theorem dX9_addWall_60 : decode cX9_addWall 60 = .ok (.invokevirtual 135, 3) := by decide +kernel
theorem dX9_addWall_63 : decode cX9_addWall 63 = .ok (.aload_n 0, 1) := by decide +kernel
theorem dX9_addWall_64 : decode cX9_addWall 64 = .ok (.ldc 139, 2) := by decide +kernel
theorem dX9_addWall_66 : decode cX9_addWall 66 = .ok (.invokevirtual 140, 3) := by decide +kernel
theorem dX9_addWall_69 : decode cX9_addWall 69 = .ok (.bipush 42, 2) := by decide +kernel
theorem dX9_addWall_71 : decode cX9_addWall 71 = .ok (.if_icmp .ge 21, 3) := by decide +kernel
theorem dX9_addWall_74 : decode cX9_addWall 74 = .ok (.aload_n 0, 1) := by decide +kernel
theorem dX9_addWall_75 : decode cX9_addWall 75 = .ok (.iload 4, 2) := by decide +kernel
theorem dX9_addWall_77 : decode cX9_addWall 77 = .ok (.iload_n 3, 1) := by decide +kernel
theorem dX9_addWall_78 : decode cX9_addWall 78 = .ok (.invokestatic 127, 3) := by decide +kernel
theorem dX9_addWall_81 : decode cX9_addWall 81 = .ok (.iconst 0, 1) := by decide +kernel
theorem dX9_addWall_82 : decode cX9_addWall 82 = .ok (.invokevirtual 135, 3) := by decide +kernel
theorem dX9_addWall_85 : decode cX9_addWall 85 = .ok (.aload_n 0, 1) := by decide +kernel
theorem dX9_addWall_86 : decode cX9_addWall 86 = .ok (.iconst 4, 1) := by decide +kernel
theorem dX9_addWall_87 : decode cX9_addWall 87 = .ok (.putfield 53, 3) := by decide +kernel
theorem dX9_addWall_90 : decode cX9_addWall 90 = .ok (.iconst 0, 1) := by decide +kernel
theorem dX9_addWall_91 : decode cX9_addWall 91 = .ok (.ireturn, 1) := by decide +kernel
theorem dX9_addWall_92 : decode cX9_addWall 92 = .ok (.aload_n 0, 1) := by decide +kernel
theorem dX9_addWall_93 : decode cX9_addWall 93 = .ok (.getfield 63, 3) := by decide +kernel
theorem dX9_addWall_96 : decode cX9_addWall 96 = .ok (.ireturn, 1) := by decide +kernel
set_option maxRecDepth 20000 in
theorem ggX9_removeWall_X9_at : GoodIn wsX9_removeWall wsX9_at := goodIn_r _ [7] (by decide +kernel) (by decide +kernel)
set_option maxRecDepth 20000 in
theorem gX9_removeWall_X9_at : GoodIn wsX9_removeWall (va_wsS RX9 108 yX9_at wsX9_at) := goodIn_app (goodIn_of _ (by decide +kernel)) ggX9_removeWall_X9_at
set_option maxRecDepth 20000 in
theorem ggX9_removeWall_X9_wrongSide : GoodIn wsX9_removeWall wsX9_wrongSide := goodIn_r _ [11, 12, 13, 6, 14, 15, 16, 17, 18, 19, 20] (by decide +kernel) (by decide +kernel)
set_option maxRecDepth 20000 in
theorem gX9_removeWall_X9_wrongSide : GoodIn wsX9_removeWall (wsV RX9 131 RX9 yX9_wrongSide wsX9_wrongSide) := goodIn_app (goodIn_of _ (by decide +kernel)) ggX9_removeWall_X9_wrongSide
set_option maxRecDepth 20000 in
theorem ggX9_removeWall_X9_sideOf : GoodIn wsX9_removeWall wsX9_sideOf := goodIn_r _ [20] (by decide +kernel) (by decide +kernel)
set_option maxRecDepth 20000 in
theorem gX9_removeWall_X9_sideOf : GoodIn wsX9_removeWall (va_wsS RX9 127 yX9_sideOf wsX9_sideOf) := goodIn_app (goodIn_of _ (by decide +kernel)) ggX9_removeWall_X9_sideOf
set_option maxRecDepth 20000 in
theorem ggX9_removeWall_X9_lay : GoodIn wsX9_removeWall wsX9_lay := goodIn_r _ [24, 2, 3, 25, 26, 6, 27, 28, 29, 30, 31, 32, 33, 34, 35, 36, 37, 38, 39, 40, 41, 42, 43, 44, 45, 46, 47, 48, 49, 50, 51] (by decide +kernel) (by decide +kernel)
set_option maxRecDepth 20000 in
theorem gX9_removeWall_X9_lay : GoodIn wsX9_removeWall (wsV RX9 135 RX9 yX9_lay wsX9_lay) := goodIn_app (goodIn_of _ (by decide +kernel)) ggX9_removeWall_X9_lay
theorem dX9_removeWall_0 : decode cX9_removeWall 0 = .ok (.iload_n 1, 1) := by decide +kernel
theorem dX9_removeWall_1 : decode cX9_removeWall 1 = .ok (.iload_n 2, 1) := by decide +kernel
theorem dX9_removeWall_2 : decode cX9_removeWall 2 = .ok (.invokestatic 108, 3) := by decide +kernel
theorem dX9_removeWall_5 : decode cX9_removeWall 5 = .ok (.istore 4, 2) := by decide +kernel
theorem dX9_removeWall_7 : decode cX9_removeWall 7 = .ok (.aload_n 0, 1) := by decide +kernel
theorem dX9_removeWall_8 : decode cX9_removeWall 8 = .ok (.aload_n 0, 1) := by decide +kernel
theorem dX9_removeWall_9 : decode cX9_removeWall 9 = .ok (.iload_n 1, 1) := by decide +kernel
theorem dX9_removeWall_10 : decode cX9_removeWall 10 = .ok (.iload_n 2, 1) := by decide +kernel
theorem dX9_removeWall_11 : decode cX9_removeWall 11 = .ok (.iload_n 3, 1) := by decide +kernel
theorem dX9_removeWall_12 : decode cX9_removeWall 12 = .ok (.invokevirtual 131, 3) := by decide +kernel
theorem dX9_removeWall_15 : decode cX9_removeWall 15 = .ok (.putfield 53, 3) := by decide +kernel
theorem dX9_removeWall_18 : decode cX9_removeWall 18 = .ok (.aload_n 0, 1) := by decide +kernel
theorem dX9_removeWall_19 : decode cX9_removeWall 19 = .ok (.getfield 53, 3) := by decide +kernel
theorem dX9_removeWall_22 : decode cX9_removeWall 22 = .ok (.ifCond .ne 25, 3) := by decide +kernel
theorem dX9_removeWall_25 : decode cX9_removeWall 25 = .ok (.aload_n 0, 1) := by decide +kernel
theorem dX9_removeWall_26 : decode cX9_removeWall 26 = .ok (.getfield 38, 3) := by decide +kernel
theorem dX9_removeWall_29 : decode cX9_removeWall 29 = .ok (.iconst 4, 1) := by decide +kernel
theorem dX9_removeWall_30 : decode cX9_removeWall 30 = .ok (.iload 4, 2) := by decide +kernel
theorem dX9_removeWall_32 : decode cX9_removeWall 32 = .ok (.imul, 1) := by decide +kernel
theorem dX9_removeWall_33 : decode cX9_removeWall 33 = .ok (.iload_n 3, 1) := by decide +kernel
theorem dX9_removeWall_34 : decode cX9_removeWall 34 = .ok (.invokestatic 127, 3) := by decide +kernel
theorem dX9_removeWall_37 : decode cX9_removeWall 37 = .ok (.iadd, 1) := by decide +kernel
theorem dX9_removeWall_38 : decode cX9_removeWall 38 = .ok (.baload, 1) := by decide +kernel
theorem dX9_removeWall_39 : decode cX9_removeWall 39 = .ok (.ifCond .ne 8, 3) := by decide +kernel
theorem dX9_removeWall_42 : decode cX9_removeWall 42 = .ok (.aload_n 0, 1) := by decide +kernel
theorem dX9_removeWall_43 : decode cX9_removeWall 43 = .ok (.iconst 3, 1) := by decide +kernel
theorem dX9_removeWall_44 : decode cX9_removeWall 44 = .ok (.putfield 53, 3) := by decide +kernel
theorem dX9_removeWall_47 : decode cX9_removeWall 47 = .ok (.aload_n 0, 1) := by decide +kernel
theorem dX9_removeWall_48 : decode cX9_removeWall 48 = .ok (.getfield 53, 3) := by decide +kernel
theorem dX9_removeWall_51 : decode cX9_removeWall 51 = .ok (.ifCond .le 5, 3) := by decide +kernel
theorem dX9_removeWall_54 : decode cX9_removeWall 54 = .ok (.iconst 0, 1) := by decide +kernel
theorem dX9_removeWall_55 : decode cX9_removeWall 55 = .ok (.ireturn, 1) := by decide +kernel
theorem dX9_removeWall_56 : decode cX9_removeWall 56 = .ok (.aload_n 0, 1) := by decide +kernel
theorem dX9_removeWall_57 : decode cX9_removeWall 57 = .ok (.iload 4, 2) := by decide +kernel
theorem dX9_removeWall_59 : decode cX9_removeWall 59 = .ok (.iload_n 3, 1) := by decide +kernel
theorem dX9_removeWall_60 : decode cX9_removeWall 60 = .ok (.invokestatic 127, 3) := by decide +kernel
theorem dX9_removeWall_63 : decode cX9_removeWall 63 = .ok (.iconst 0, 1) := by decide +kernel
theorem dX9_removeWall_64 : decode cX9_removeWall 64 = .ok (.invokevirtual 135, 3) := by decide +kernel
theorem dX9_removeWall_67 : decode cX9_removeWall 67 = .ok (.aload_n 0, 1) := by decide +kernel
theorem dX9_removeWall_68 : decode cX9_removeWall 68 = .ok (.getfield 63, 3) := by decide +kernel
theorem dX9_removeWall_71 : decode cX9_removeWall 71 = .ok (.ireturn, 1) := by decide +kernel
set_option maxRecDepth 20000 in
theorem ggX9_isClosed_X9_wrongSide : GoodIn wsX9_isClosed wsX9_wrongSide := goodIn_r _ [6, 7, 8, 5, 9, 10, 11, 12, 13, 14, 15] (by decide +kernel) (by decide +kernel)
set_option maxRecDepth 20000 in
theorem gX9_isClosed_X9_wrongSide : GoodIn wsX9_isClosed (wsV RX9 131 RX9 yX9_wrongSide wsX9_wrongSide) := goodIn_app (goodIn_of _ (by decide +kernel)) ggX9_isClosed_X9_wrongSide
set_option maxRecDepth 20000 in
theorem ggX9_isClosed_X9_at : GoodIn wsX9_isClosed wsX9_at := goodIn_r _ [18] (by decide +kernel) (by decide +kernel)
set_option maxRecDepth 20000 in
theorem gX9_isClosed_X9_at : GoodIn wsX9_isClosed (va_wsS RX9 108 yX9_at wsX9_at) := goodIn_app (goodIn_of _ (by decide +kernel)) ggX9_isClosed_X9_at
set_option maxRecDepth 20000 in
theorem ggX9_isClosed_X9_sideOf : GoodIn wsX9_isClosed wsX9_sideOf := goodIn_r _ [15] (by decide +kernel) (by decide +kernel)
set_option maxRecDepth 20000 in
theorem gX9_isClosed_X9_sideOf : GoodIn wsX9_isClosed (va_wsS RX9 127 yX9_sideOf wsX9_sideOf) := goodIn_app (goodIn_of _ (by decide +kernel)) ggX9_isClosed_X9_sideOf
set_option maxRecDepth 20000 in
theorem ggX9_isClosed_X9_isOpen : GoodIn wsX9_isClosed wsX9_isOpen := goodIn_r _ [22, 23, 24, 25, 5, 26, 27, 28, 29, 30, 31, 32, 33, 34, 35, 36, 37, 38, 39, 40, 41, 42, 43, 44, 45, 46, 47] (by decide +kernel) (by decide +kernel)
set_option maxRecDepth 20000 in
theorem gX9_isClosed_X9_isOpen : GoodIn wsX9_isClosed (wsV RX9 83 RX9 yX9_isOpen wsX9_isOpen) := goodIn_app (goodIn_of _ (by decide +kernel)) ggX9_isClosed_X9_isOpen
theorem dX9_isClosed_0 : decode cX9_isClosed 0 = .ok (.aload_n 0, 1) := by decide +kernel
theorem dX9_isClosed_1 : decode cX9_isClosed 1 = .ok (.aload_n 0, 1) := by decide +kernel
theorem dX9_isClosed_2 : decode cX9_isClosed 2 = .ok (.iload_n 1, 1) := by decide +kernel
theorem dX9_isClosed_3 : decode cX9_isClosed 3 = .ok (.iload_n 2, 1) := by decide +kernel
theorem dX9_isClosed_4 : decode cX9_isClosed 4 = .ok (.iload_n 3, 1) := by decide +kernel
theorem dX9_isClosed_5 : decode cX9_isClosed 5 = .ok (.invokevirtual 131, 3) := by decide +kernel
theorem dX9_isClosed_8 : decode cX9_isClosed 8 = .ok (.putfield 53, 3) := by decide +kernel
theorem dX9_isClosed_11 : decode cX9_isClosed 11 = .ok (.aload_n 0, 1) := by decide +kernel
theorem dX9_isClosed_12 : decode cX9_isClosed 12 = .ok (.getfield 53, 3) := by decide +kernel
theorem dX9_isClosed_15 : decode cX9_isClosed 15 = .ok (.ifCond .ne 23, 3) := by decide +kernel
theorem dX9_isClosed_18 : decode cX9_isClosed 18 = .ok (.aload_n 0, 1) := by decide +kernel
theorem dX9_isClosed_19 : decode cX9_isClosed 19 = .ok (.iload_n 1, 1) := by decide +kernel
theorem dX9_isClosed_20 : decode cX9_isClosed 20 = .ok (.iload_n 2, 1) := by decide +kernel
theorem dX9_isClosed_21 : decode cX9_isClosed 21 = .ok (.invokestatic 108, 3) := by decide +kernel
theorem dX9_isClosed_24 : decode cX9_isClosed 24 = .ok (.iload_n 3, 1) := by decide +kernel
theorem dX9_isClosed_25 : decode cX9_isClosed 25 = .ok (.invokestatic 127, 3) := by decide +kernel
theorem dX9_isClosed_28 : decode cX9_isClosed 28 = .ok (.invokevirtual 83, 3) := by decide +kernel
theorem dX9_isClosed_31 : decode cX9_isClosed 31 = .ok (.ifCond .ne 7, 3) := by decide +kernel
theorem dX9_isClosed_34 : decode cX9_isClosed 34 = .ok (.iconst 1, 1) := by decide +kernel
theorem dX9_isClosed_35 : decode cX9_isClosed 35 = .ok (.goto 4, 3) := by decide +kernel
theorem dX9_isClosed_38 : decode cX9_isClosed 38 = .ok (.iconst 0, 1) := by decide +kernel
theorem dX9_isClosed_39 : decode cX9_isClosed 39 = .ok (.ireturn, 1) := by decide +kernel
set_option maxRecDepth 20000 in
theorem ggX9_isPlanted_X9_isCell : GoodIn wsX9_isPlanted wsX9_isCell := goodIn_r _ [5, 6, 7, 4, 8] (by decide +kernel) (by decide +kernel)
set_option maxRecDepth 20000 in
theorem gX9_isPlanted_X9_isCell : GoodIn wsX9_isPlanted (va_wsS RX9 98 yX9_isCell wsX9_isCell) := goodIn_app (goodIn_of _ (by decide +kernel)) ggX9_isPlanted_X9_isCell
set_option maxRecDepth 20000 in
theorem ggX9_isPlanted_X9_checked : GoodIn wsX9_isPlanted wsX9_checked := goodIn_r _ [12, 13, 17, 18, 19, 20, 21, 22, 23, 24, 25, 26, 27, 28, 29, 30, 31, 32, 33, 34, 35, 36, 37] (by decide +kernel) (by decide +kernel)
set_option maxRecDepth 20000 in
theorem gX9_isPlanted_X9_checked : GoodIn wsX9_isPlanted (wsV RX9 143 RX9 yX9_checked wsX9_checked) := goodIn_app (goodIn_of _ (by decide +kernel)) ggX9_isPlanted_X9_checked
set_option maxRecDepth 20000 in
theorem ggX9_isPlanted_X9_at : GoodIn wsX9_isPlanted wsX9_at := goodIn_r _ [16] (by decide +kernel) (by decide +kernel)
set_option maxRecDepth 20000 in
theorem gX9_isPlanted_X9_at : GoodIn wsX9_isPlanted (va_wsS RX9 108 yX9_at wsX9_at) := goodIn_app (goodIn_of _ (by decide +kernel)) ggX9_isPlanted_X9_at
theorem dX9_isPlanted_0 : decode cX9_isPlanted 0 = .ok (.aload_n 0, 1) := by decide +kernel
theorem dX9_isPlanted_1 : decode cX9_isPlanted 1 = .ok (.iload_n 1, 1) := by decide +kernel
theorem dX9_isPlanted_2 : decode cX9_isPlanted 2 = .ok (.iload_n 2, 1) := by decide +kernel
theorem dX9_isPlanted_3 : decode cX9_isPlanted 3 = .ok (.invokestatic 98, 3) := by decide +kernel
theorem dX9_isPlanted_6 : decode cX9_isPlanted 6 = .ok (.invokevirtual 143, 3) := by decide +kernel
theorem dX9_isPlanted_9 : decode cX9_isPlanted 9 = .ok (.ifCond .ne 20, 3) := by decide +kernel
theorem dX9_isPlanted_12 : decode cX9_isPlanted 12 = .ok (.aload_n 0, 1) := by decide +kernel
theorem dX9_isPlanted_13 : decode cX9_isPlanted 13 = .ok (.getfield 34, 3) := by decide +kernel
theorem dX9_isPlanted_16 : decode cX9_isPlanted 16 = .ok (.iload_n 1, 1) := by decide +kernel
theorem dX9_isPlanted_17 : decode cX9_isPlanted 17 = .ok (.iload_n 2, 1) := by decide +kernel
theorem dX9_isPlanted_18 : decode cX9_isPlanted 18 = .ok (.invokestatic 108, 3) := by decide +kernel
theorem dX9_isPlanted_21 : decode cX9_isPlanted 21 = .ok (.baload, 1) := by decide +kernel
theorem dX9_isPlanted_22 : decode cX9_isPlanted 22 = .ok (.ifCond .eq 7, 3) := by decide +kernel
theorem dX9_isPlanted_25 : decode cX9_isPlanted 25 = .ok (.iconst 1, 1) := by decide +kernel
theorem dX9_isPlanted_26 : decode cX9_isPlanted 26 = .ok (.goto 4, 3) := by decide +kernel
theorem dX9_isPlanted_29 : decode cX9_isPlanted 29 = .ok (.iconst 0, 1) := by decide +kernel
theorem dX9_isPlanted_30 : decode cX9_isPlanted 30 = .ok (.ireturn, 1) := by decide +kernel
theorem dX9_takes_0 : decode cX9_takes 0 = .ok (.aload_n 0, 1) := by decide +kernel
theorem dX9_takes_1 : decode cX9_takes 1 = .ok (.getfield 34, 3) := by decide +kernel
theorem dX9_takes_4 : decode cX9_takes 4 = .ok (.iload_n 1, 1) := by decide +kernel
theorem dX9_takes_5 : decode cX9_takes 5 = .ok (.baload, 1) := by decide +kernel
theorem dX9_takes_6 : decode cX9_takes 6 = .ok (.ifCond .ne 12, 3) := by decide +kernel
theorem dX9_takes_9 : decode cX9_takes 9 = .ok (.aload_n 0, 1) := by decide +kernel
theorem dX9_takes_10 : decode cX9_takes 10 = .ok (.getfield 7, 3) := by decide +kernel
theorem dX9_takes_13 : decode cX9_takes 13 = .ok (.iload_n 1, 1) := by decide +kernel
theorem dX9_takes_14 : decode cX9_takes 14 = .ok (.iaload, 1) := by decide +kernel
theorem dX9_takes_15 : decode cX9_takes 15 = .ok (.ifCond .ne 5, 3) := by decide +kernel
theorem dX9_takes_18 : decode cX9_takes 18 = .ok (.iconst 0, 1) := by decide +kernel
theorem dX9_takes_19 : decode cX9_takes 19 = .ok (.ireturn, 1) := by decide +kernel
theorem dX9_takes_20 : decode cX9_takes 20 = .ok (.aload_n 0, 1) := by decide +kernel
theorem dX9_takes_21 : decode cX9_takes 21 = .ok (.getfield 7, 3) := by decide +kernel
theorem dX9_takes_24 : decode cX9_takes 24 = .ok (.iload_n 1, 1) := by decide +kernel
theorem dX9_takes_25 : decode cX9_takes 25 = .ok (.dup2, 1) := by decide +kernel
theorem dX9_takes_26 : decode cX9_takes 26 = .ok (.iaload, 1) := by decide +kernel
theorem dX9_takes_27 : decode cX9_takes 27 = .ok (.iconst 1, 1) := by decide +kernel
theorem dX9_takes_28 : decode cX9_takes 28 = .ok (.isub, 1) := by decide +kernel
theorem dX9_takes_29 : decode cX9_takes 29 = .ok (.iastore, 1) := by decide +kernel
theorem dX9_takes_30 : decode cX9_takes 30 = .ok (.aload_n 0, 1) := by decide +kernel
theorem dX9_takes_31 : decode cX9_takes 31 = .ok (.getfield 13, 3) := by decide +kernel
theorem dX9_takes_34 : decode cX9_takes 34 = .ok (.iload_n 1, 1) := by decide +kernel
theorem dX9_takes_35 : decode cX9_takes 35 = .ok (.dup2, 1) := by decide +kernel
theorem dX9_takes_36 : decode cX9_takes 36 = .ok (.iaload, 1) := by decide +kernel
theorem dX9_takes_37 : decode cX9_takes 37 = .ok (.iconst 1, 1) := by decide +kernel
theorem dX9_takes_38 : decode cX9_takes 38 = .ok (.isub, 1) := by decide +kernel
theorem dX9_takes_39 : decode cX9_takes 39 = .ok (.iastore, 1) := by decide +kernel
theorem dX9_takes_40 : decode cX9_takes 40 = .ok (.iconst 1, 1) := by decide +kernel
theorem dX9_takes_41 : decode cX9_takes 41 = .ok (.ireturn, 1) := by decide +kernel
set_option maxRecDepth 20000 in
theorem ggX9_isColumn_X9_in : GoodIn wsX9_isColumn wsX9_in := goodIn_r _ [4] (by decide +kernel) (by decide +kernel)
set_option maxRecDepth 20000 in
theorem gX9_isColumn_X9_in : GoodIn wsX9_isColumn (va_wsS RX9 75 yX9_in wsX9_in) := goodIn_app (goodIn_of _ (by decide +kernel)) ggX9_isColumn_X9_in
theorem dX9_isColumn_0 : decode cX9_isColumn 0 = .ok (.iload_n 0, 1) := by decide +kernel
theorem dX9_isColumn_1 : decode cX9_isColumn 1 = .ok (.iconst 0, 1) := by decide +kernel
theorem dX9_isColumn_2 : decode cX9_isColumn 2 = .ok (.iconst 5, 1) := by decide +kernel
theorem dX9_isColumn_3 : decode cX9_isColumn 3 = .ok (.invokestatic 75, 3) := by decide +kernel
theorem dX9_isColumn_6 : decode cX9_isColumn 6 = .ok (.ireturn, 1) := by decide +kernel
set_option maxRecDepth 20000 in
theorem ggX9_runs_X9_at : GoodIn wsX9_runs wsX9_at := goodIn_r _ [8] (by decide +kernel) (by decide +kernel)
set_option maxRecDepth 20000 in
theorem gX9_runs_X9_at : GoodIn wsX9_runs (va_wsS RX9 108 yX9_at wsX9_at) := goodIn_app (goodIn_of _ (by decide +kernel)) ggX9_runs_X9_at
set_option maxRecDepth 20000 in
theorem ggX9_runs_X9_isOpen : GoodIn wsX9_runs wsX9_isOpen := goodIn_r _ [12, 13, 14, 15, 7, 16, 39, 40, 41, 42, 43, 44, 45, 46, 47, 48, 49, 50, 51, 52, 53, 54, 55, 56, 57, 58, 59] (by decide +kernel) (by decide +kernel)
set_option maxRecDepth 20000 in
theorem gX9_runs_X9_isOpen : GoodIn wsX9_runs (wsV RX9 83 RX9 yX9_isOpen wsX9_isOpen) := goodIn_app (goodIn_of _ (by decide +kernel)) ggX9_runs_X9_isOpen
set_option maxRecDepth 20000 in
theorem ggX9_runs_X9_takes : GoodIn wsX9_runs wsX9_takes := goodIn_r _ [20, 2, 1, 3, 39, 40, 41, 42, 43, 44, 45, 46, 47, 48, 49, 50, 51, 52, 53, 54, 55, 56, 57, 58, 59] (by decide +kernel) (by decide +kernel)
set_option maxRecDepth 20000 in
theorem gX9_runs_X9_takes : GoodIn wsX9_runs (wsV RX9 147 RX9 yX9_takes wsX9_takes) := goodIn_app (goodIn_of _ (by decide +kernel)) ggX9_runs_X9_takes
set_option maxRecDepth 20000 in
theorem ggX9_runs_X9_settles : GoodIn wsX9_runs wsX9_settles := goodIn_r _ [24, 25, 1, 26, 27, 28, 7, 29, 2, 30, 31, 32, 33, 34, 4, 35, 9, 10, 11, 12, 13, 14, 15, 16, 36, 37, 38, 39, 40, 41, 42, 43, 44, 45, 46, 47, 48, 49, 50, 51, 52, 53, 54, 55, 56, 57, 58, 59] (by decide +kernel) (by decide +kernel)
set_option maxRecDepth 20000 in
theorem gX9_runs_X9_settles : GoodIn wsX9_runs (wsV RX9 101 RX9 yX9_settles wsX9_settles) := goodIn_app (goodIn_of _ (by decide +kernel)) ggX9_runs_X9_settles
theorem dX9_runs_0 : decode cX9_runs 0 = .ok (.iload_n 2, 1) := by decide +kernel
theorem dX9_runs_1 : decode cX9_runs 1 = .ok (.istore_n 3, 1) := by decide +kernel
theorem dX9_runs_2 : decode cX9_runs 2 = .ok (.iconst 0, 1) := by decide +kernel
theorem dX9_runs_3 : decode cX9_runs 3 = .ok (.istore 4, 2) := by decide +kernel
theorem dX9_runs_5 : decode cX9_runs 5 = .ok (.iconst 0, 1) := by decide +kernel
theorem dX9_runs_6 : decode cX9_runs 6 = .ok (.istore 5, 2) := by decide +kernel
theorem dX9_runs_8 : decode cX9_runs 8 = .ok (.iload 5, 2) := by decide +kernel
theorem dX9_runs_10 : decode cX9_runs 10 = .ok (.bipush 7, 2) := by decide +kernel
theorem dX9_runs_12 : decode cX9_runs 12 = .ok (.if_icmp .ge 87, 3) := by decide +kernel
theorem dX9_runs_15 : decode cX9_runs 15 = .ok (.aload_n 0, 1) := by decide +kernel
theorem dX9_runs_16 : decode cX9_runs 16 = .ok (.iload_n 1, 1) := by decide +kernel
theorem dX9_runs_17 : decode cX9_runs 17 = .ok (.iload 5, 2) := by decide +kernel
theorem dX9_runs_19 : decode cX9_runs 19 = .ok (.invokestatic 108, 3) := by decide +kernel
theorem dX9_runs_22 : decode cX9_runs 22 = .ok (.iconst 0, 1) := by decide +kernel
theorem dX9_runs_23 : decode cX9_runs 23 = .ok (.invokevirtual 83, 3) := by decide +kernel
theorem dX9_runs_26 : decode cX9_runs 26 = .ok (.ifCond .eq 73, 3) := by decide +kernel
theorem dX9_runs_29 : decode cX9_runs 29 = .ok (.iload_n 3, 1) := by decide +kernel
theorem dX9_runs_30 : decode cX9_runs 30 = .ok (.aload_n 0, 1) := by decide +kernel
theorem dX9_runs_31 : decode cX9_runs 31 = .ok (.getfield 7, 3) := by decide +kernel
theorem dX9_runs_34 : decode cX9_runs 34 = .ok (.iload_n 1, 1) := by decide +kernel
theorem dX9_runs_35 : decode cX9_runs 35 = .ok (.iload 5, 2) := by decide +kernel
theorem dX9_runs_37 : decode cX9_runs 37 = .ok (.invokestatic 108, 3) := by decide +kernel
theorem dX9_runs_40 : decode cX9_runs 40 = .ok (.iaload, 1) := by decide +kernel
theorem dX9_runs_41 : decode cX9_runs 41 = .ok (.if_icmp .le 58, 3) := by decide +kernel
theorem dX9_runs_44 : decode cX9_runs 44 = .ok (.iload_n 1, 1) := by decide +kernel
theorem dX9_runs_45 : decode cX9_runs 45 = .ok (.iload 5, 2) := by decide +kernel
theorem dX9_runs_47 : decode cX9_runs 47 = .ok (.invokestatic 108, 3) := by decide +kernel
theorem dX9_runs_50 : decode cX9_runs 50 = .ok (.istore 6, 2) := by decide +kernel
theorem dX9_runs_52 : decode cX9_runs 52 = .ok (.iload_n 3, 1) := by decide +kernel
theorem dX9_runs_53 : decode cX9_runs 53 = .ok (.iconst 1, 1) := by decide +kernel
theorem dX9_runs_54 : decode cX9_runs 54 = .ok (.aload_n 0, 1) := by decide +kernel
theorem dX9_runs_55 : decode cX9_runs 55 = .ok (.getfield 7, 3) := by decide +kernel
theorem dX9_runs_58 : decode cX9_runs 58 = .ok (.iload 6, 2) := by decide +kernel
theorem dX9_runs_60 : decode cX9_runs 60 = .ok (.iaload, 1) := by decide +kernel
theorem dX9_runs_61 : decode cX9_runs 61 = .ok (.iconst 4, 1) := by decide +kernel
theorem dX9_runs_62 : decode cX9_runs 62 = .ok (.idiv, 1) := by decide +kernel
theorem dX9_runs_63 : decode cX9_runs 63 = .ok (.iadd, 1) := by decide +kernel
theorem dX9_runs_64 : decode cX9_runs 64 = .ok (.aload_n 0, 1) := by decide +kernel
theorem dX9_runs_65 : decode cX9_runs 65 = .ok (.getfield 34, 3) := by decide +kernel
theorem dX9_runs_68 : decode cX9_runs 68 = .ok (.iload 6, 2) := by decide +kernel
theorem dX9_runs_70 : decode cX9_runs 70 = .ok (.baload, 1) := by decide +kernel
theorem dX9_runs_71 : decode cX9_runs 71 = .ok (.ifCond .eq 7, 3) := by decide +kernel
theorem dX9_runs_74 : decode cX9_runs 74 = .ok (.iconst 1, 1) := by decide +kernel
theorem dX9_runs_75 : decode cX9_runs 75 = .ok (.goto 4, 3) := by decide +kernel
theorem dX9_runs_78 : decode cX9_runs 78 = .ok (.iconst 0, 1) := by decide +kernel
theorem dX9_runs_79 : decode cX9_runs 79 = .ok (.iadd, 1) := by decide +kernel
theorem dX9_runs_80 : decode cX9_runs 80 = .ok (.isub, 1) := by decide +kernel
theorem dX9_runs_81 : decode cX9_runs 81 = .ok (.istore_n 3, 1) := by decide +kernel
theorem dX9_runs_82 : decode cX9_runs 82 = .ok (.iload 4, 2) := by decide +kernel
theorem dX9_runs_84 : decode cX9_runs 84 = .ok (.aload_n 0, 1) := by decide +kernel
theorem dX9_runs_85 : decode cX9_runs 85 = .ok (.iload 6, 2) := by decide +kernel
theorem dX9_runs_87 : decode cX9_runs 87 = .ok (.invokevirtual 147, 3) := by decide +kernel
theorem dX9_runs_90 : decode cX9_runs 90 = .ok (.iadd, 1) := by decide +kernel
theorem dX9_runs_91 : decode cX9_runs 91 = .ok (.istore 4, 2) := by decide +kernel
theorem dX9_runs_93 : decode cX9_runs 93 = .ok (.iinc 5 1, 3) := by decide +kernel
theorem dX9_runs_96 : decode cX9_runs 96 = .ok (.goto (-88), 3) := by decide +kernel
theorem dX9_runs_99 : decode cX9_runs 99 = .ok (.iload 5, 2) := by decide +kernel
theorem dX9_runs_101 : decode cX9_runs 101 = .ok (.bipush 7, 2) := by decide +kernel
theorem dX9_runs_103 : decode cX9_runs 103 = .ok (.if_icmp .eq 17, 3) := by decide +kernel
theorem dX9_runs_106 : decode cX9_runs 106 = .ok (.aload_n 0, 1) := by decide +kernel
theorem dX9_runs_107 : decode cX9_runs 107 = .ok (.iload_n 1, 1) := by decide +kernel
theorem dX9_runs_108 : decode cX9_runs 108 = .ok (.iload 5, 2) := by decide +kernel
theorem dX9_runs_110 : decode cX9_runs 110 = .ok (.invokestatic 108, 3) := by decide +kernel
theorem dX9_runs_113 : decode cX9_runs 113 = .ok (.iconst 0, 1) := by decide +kernel
theorem dX9_runs_114 : decode cX9_runs 114 = .ok (.invokevirtual 83, 3) := by decide +kernel
theorem dX9_runs_117 : decode cX9_runs 117 = .ok (.ifCond .ne 7, 3) := by decide +kernel
theorem dX9_runs_120 : decode cX9_runs 120 = .ok (.iconst 1, 1) := by decide +kernel
theorem dX9_runs_121 : decode cX9_runs 121 = .ok (.goto 4, 3) := by decide +kernel
theorem dX9_runs_124 : decode cX9_runs 124 = .ok (.iconst 0, 1) := by decide +kernel
theorem dX9_runs_125 : decode cX9_runs 125 = .ok (.istore 6, 2) := by decide +kernel
theorem dX9_runs_127 : decode cX9_runs 127 = .ok (.iload 5, 2) := by decide +kernel
theorem dX9_runs_129 : decode cX9_runs 129 = .ok (.iconst 1, 1) := by decide +kernel
theorem dX9_runs_130 : decode cX9_runs 130 = .ok (.isub, 1) := by decide +kernel
theorem dX9_runs_131 : decode cX9_runs 131 = .ok (.istore 7, 2) := by decide +kernel
theorem dX9_runs_133 : decode cX9_runs 133 = .ok (.iload 7, 2) := by decide +kernel
theorem dX9_runs_135 : decode cX9_runs 135 = .ok (.ifCond .lt 66, 3) := by decide +kernel
theorem dX9_runs_138 : decode cX9_runs 138 = .ok (.iload_n 1, 1) := by decide +kernel
theorem dX9_runs_139 : decode cX9_runs 139 = .ok (.iload 7, 2) := by decide +kernel
theorem dX9_runs_141 : decode cX9_runs 141 = .ok (.invokestatic 108, 3) := by decide +kernel
theorem dX9_runs_144 : decode cX9_runs 144 = .ok (.istore 8, 2) := by decide +kernel
theorem dX9_runs_146 : decode cX9_runs 146 = .ok (.iload 6, 2) := by decide +kernel
theorem dX9_runs_148 : decode cX9_runs 148 = .ok (.ifCond .eq 17, 3) := by decide +kernel
theorem dX9_runs_151 : decode cX9_runs 151 = .ok (.iload 4, 2) := by decide +kernel
theorem dX9_runs_153 : decode cX9_runs 153 = .ok (.aload_n 0, 1) := by decide +kernel
theorem dX9_runs_154 : decode cX9_runs 154 = .ok (.iload 8, 2) := by decide +kernel
theorem dX9_runs_156 : decode cX9_runs 156 = .ok (.invokevirtual 147, 3) := by decide +kernel
theorem dX9_runs_159 : decode cX9_runs 159 = .ok (.iadd, 1) := by decide +kernel
theorem dX9_runs_160 : decode cX9_runs 160 = .ok (.istore 4, 2) := by decide +kernel
theorem dX9_runs_162 : decode cX9_runs 162 = .ok (.goto 33, 3) := by decide +kernel
theorem dX9_runs_165 : decode cX9_runs 165 = .ok (.iload 4, 2) := by decide +kernel
theorem dX9_runs_167 : decode cX9_runs 167 = .ok (.ifCond .le 28, 3) := by decide +kernel
theorem dX9_runs_170 : decode cX9_runs 170 = .ok (.iinc 4 (-1), 3) := by decide +kernel
theorem dX9_runs_173 : decode cX9_runs 173 = .ok (.aload_n 0, 1) := by decide +kernel
theorem dX9_runs_174 : decode cX9_runs 174 = .ok (.getfield 7, 3) := by decide +kernel
theorem dX9_runs_177 : decode cX9_runs 177 = .ok (.iload 8, 2) := by decide +kernel
theorem dX9_runs_179 : decode cX9_runs 179 = .ok (.dup2, 1) := by decide +kernel
theorem dX9_runs_180 : decode cX9_runs 180 = .ok (.iaload, 1) := by decide +kernel
theorem dX9_runs_181 : decode cX9_runs 181 = .ok (.iconst 1, 1) := by decide +kernel
theorem dX9_runs_182 : decode cX9_runs 182 = .ok (.iadd, 1) := by decide +kernel
theorem dX9_runs_183 : decode cX9_runs 183 = .ok (.iastore, 1) := by decide +kernel
theorem dX9_runs_184 : decode cX9_runs 184 = .ok (.aload_n 0, 1) := by decide +kernel
theorem dX9_runs_185 : decode cX9_runs 185 = .ok (.getfield 13, 3) := by decide +kernel
theorem dX9_runs_188 : decode cX9_runs 188 = .ok (.iload 8, 2) := by decide +kernel
theorem dX9_runs_190 : decode cX9_runs 190 = .ok (.dup2, 1) := by decide +kernel
theorem dX9_runs_191 : decode cX9_runs 191 = .ok (.iaload, 1) := by decide +kernel
theorem dX9_runs_192 : decode cX9_runs 192 = .ok (.iconst 1, 1) := by decide +kernel
theorem dX9_runs_193 : decode cX9_runs 193 = .ok (.iadd, 1) := by decide +kernel
theorem dX9_runs_194 : decode cX9_runs 194 = .ok (.iastore, 1) := by decide +kernel
theorem dX9_runs_195 : decode cX9_runs 195 = .ok (.iinc 7 (-1), 3) := by decide +kernel
theorem dX9_runs_198 : decode cX9_runs 198 = .ok (.goto (-65), 3) := by decide +kernel
theorem dX9_runs_201 : decode cX9_runs 201 = .ok (.aload_n 0, 1) := by decide +kernel
theorem dX9_runs_202 : decode cX9_runs 202 = .ok (.dup, 1) := by decide +kernel
theorem dX9_runs_203 : decode cX9_runs 203 = .ok (.getfield 57, 3) := by decide +kernel
theorem dX9_runs_206 : decode cX9_runs 206 = .ok (.iload 4, 2) := by decide +kernel
theorem dX9_runs_208 : decode cX9_runs 208 = .ok (.iadd, 1) := by decide +kernel
theorem dX9_runs_209 : decode cX9_runs 209 = .ok (.putfield 57, 3) := by decide +kernel
theorem dX9_runs_212 : decode cX9_runs 212 = .ok (.aload_n 0, 1) := by decide +kernel
theorem dX9_runs_213 : decode cX9_runs 213 = .ok (.invokevirtual 101, 3) := by decide +kernel
theorem dX9_runs_216 : decode cX9_runs 216 = .ok (.istore 7, 2) := by decide +kernel
theorem dX9_runs_218 : decode cX9_runs 218 = .ok (.iload 5, 2) := by decide +kernel
theorem dX9_runs_220 : decode cX9_runs 220 = .ok (.ireturn, 1) := by decide +kernel
set_option maxRecDepth 20000 in
theorem ggX9_wave_X9_isColumn : GoodIn wsX9_wave wsX9_isColumn := goodIn_r _ [5, 6, 7, 4, 8] (by decide +kernel) (by decide +kernel)
set_option maxRecDepth 20000 in
theorem gX9_wave_X9_isColumn : GoodIn wsX9_wave (va_wsS RX9 150 yX9_isColumn wsX9_isColumn) := goodIn_app (goodIn_of _ (by decide +kernel)) ggX9_wave_X9_isColumn
set_option maxRecDepth 20000 in
theorem ggX9_wave_X9_in : GoodIn wsX9_wave wsX9_in := goodIn_r _ [8] (by decide +kernel) (by decide +kernel)
set_option maxRecDepth 20000 in
theorem gX9_wave_X9_in : GoodIn wsX9_wave (va_wsS RX9 75 yX9_in wsX9_in) := goodIn_app (goodIn_of _ (by decide +kernel)) ggX9_wave_X9_in
set_option maxRecDepth 20000 in
theorem ggX9_wave_X9_runs : GoodIn wsX9_wave wsX9_runs := goodIn_r _ [12, 13, 14, 15, 16, 17, 18, 4, 19, 20, 21, 22, 23, 24, 25, 26, 27, 28, 29, 30, 31, 32, 33, 34, 35, 36, 37, 38, 39, 40, 41, 42, 43, 44, 45, 46, 47, 48, 49, 50, 51, 52, 53, 54, 55, 56, 57, 58, 59, 60, 61, 62, 63, 64, 65, 66, 67, 68, 69, 70] (by decide +kernel) (by decide +kernel)
set_option maxRecDepth 20000 in
theorem gX9_wave_X9_runs : GoodIn wsX9_wave (wsV RX9 154 RX9 yX9_runs wsX9_runs) := goodIn_app (goodIn_of _ (by decide +kernel)) ggX9_wave_X9_runs
theorem dX9_wave_0 : decode cX9_wave 0 = .ok (.aload_n 0, 1) := by decide +kernel
theorem dX9_wave_1 : decode cX9_wave 1 = .ok (.iload_n 1, 1) := by decide +kernel
theorem dX9_wave_2 : decode cX9_wave 2 = .ok (.invokestatic 150, 3) := by decide +kernel
theorem dX9_wave_5 : decode cX9_wave 5 = .ok (.ifCond .ne 7, 3) := by decide +kernel
theorem dX9_wave_8 : decode cX9_wave 8 = .ok (.iconst 1, 1) := by decide +kernel
theorem dX9_wave_9 : decode cX9_wave 9 = .ok (.goto 18, 3) := by decide +kernel
theorem dX9_wave_12 : decode cX9_wave 12 = .ok (.iload_n 2, 1) := by decide +kernel
theorem dX9_wave_13 : decode cX9_wave 13 = .ok (.iconst 1, 1) := by decide +kernel
theorem dX9_wave_14 : decode cX9_wave 14 = .ok (.bipush 60, 2) := by decide +kernel
theorem dX9_wave_16 : decode cX9_wave 16 = .ok (.invokestatic 75, 3) := by decide +kernel
theorem dX9_wave_19 : decode cX9_wave 19 = .ok (.ifCond .ne 7, 3) := by decide +kernel
theorem dX9_wave_22 : decode cX9_wave 22 = .ok (.iconst 2, 1) := by decide +kernel
theorem dX9_wave_23 : decode cX9_wave 23 = .ok (.goto 4, 3) := by decide +kernel
theorem dX9_wave_26 : decode cX9_wave 26 = .ok (.iconst 0, 1) := by decide +kernel
theorem dX9_wave_27 : decode cX9_wave 27 = .ok (.putfield 53, 3) := by decide +kernel
theorem dX9_wave_30 : decode cX9_wave 30 = .ok (.aload_n 0, 1) := by decide +kernel
theorem dX9_wave_31 : decode cX9_wave 31 = .ok (.getfield 53, 3) := by decide +kernel
theorem dX9_wave_34 : decode cX9_wave 34 = .ok (.ifCond .le 7, 3) := by decide +kernel
theorem dX9_wave_37 : decode cX9_wave 37 = .ok (.iconst 0, 1) := by decide +kernel
theorem dX9_wave_38 : decode cX9_wave 38 = .ok (.goto 9, 3) := by decide +kernel
theorem dX9_wave_41 : decode cX9_wave 41 = .ok (.aload_n 0, 1) := by decide +kernel
theorem dX9_wave_42 : decode cX9_wave 42 = .ok (.iload_n 1, 1) := by decide +kernel
theorem dX9_wave_43 : decode cX9_wave 43 = .ok (.iload_n 2, 1) := by decide +kernel
theorem dX9_wave_44 : decode cX9_wave 44 = .ok (.invokevirtual 154, 3) := by decide +kernel
theorem dX9_wave_47 : decode cX9_wave 47 = .ok (.ireturn, 1) := by decide +kernel
set_option maxRecDepth 20000 in
theorem ggX9_wind_X9_in : GoodIn wsX9_wind wsX9_in := goodIn_r _ [8] (by decide +kernel) (by decide +kernel)
set_option maxRecDepth 20000 in
theorem gX9_wind_X9_in : GoodIn wsX9_wind (va_wsS RX9 75 yX9_in wsX9_in) := goodIn_app (goodIn_of _ (by decide +kernel)) ggX9_wind_X9_in
set_option maxRecDepth 20000 in
theorem ggX9_wind_X9_checked : GoodIn wsX9_wind wsX9_checked := goodIn_r _ [12, 13, 41, 42, 43, 44, 45, 46, 47, 48, 49, 50, 51, 52, 53, 54, 55, 56, 57, 58, 59, 60, 61] (by decide +kernel) (by decide +kernel)
set_option maxRecDepth 20000 in
theorem gX9_wind_X9_checked : GoodIn wsX9_wind (wsV RX9 143 RX9 yX9_checked wsX9_checked) := goodIn_app (goodIn_of _ (by decide +kernel)) ggX9_wind_X9_checked
set_option maxRecDepth 20000 in
theorem ggX9_wind_X9_isOpen : GoodIn wsX9_wind wsX9_isOpen := goodIn_r _ [17, 18, 19, 20, 7, 21, 41, 42, 43, 44, 45, 46, 47, 48, 49, 50, 51, 52, 53, 54, 55, 56, 57, 58, 59, 60, 61] (by decide +kernel) (by decide +kernel)
set_option maxRecDepth 20000 in
theorem gX9_wind_X9_isOpen : GoodIn wsX9_wind (wsV RX9 83 RX9 yX9_isOpen wsX9_isOpen) := goodIn_app (goodIn_of _ (by decide +kernel)) ggX9_wind_X9_isOpen
set_option maxRecDepth 20000 in
theorem ggX9_wind_X9_behind : GoodIn wsX9_wind wsX9_behind := goodIn_r _ [21] (by decide +kernel) (by decide +kernel)
set_option maxRecDepth 20000 in
theorem gX9_wind_X9_behind : GoodIn wsX9_wind (va_wsS RX9 79 yX9_behind wsX9_behind) := goodIn_app (goodIn_of _ (by decide +kernel)) ggX9_wind_X9_behind
set_option maxRecDepth 20000 in
theorem ggX9_wind_X9_settles : GoodIn wsX9_wind wsX9_settles := goodIn_r _ [25, 26, 3, 27, 28, 29, 7, 30, 2, 31, 32, 33, 34, 35, 36, 37, 14, 15, 16, 17, 18, 19, 20, 21, 38, 39, 40, 41, 42, 43, 44, 45, 46, 47, 48, 49, 50, 51, 52, 53, 54, 55, 56, 57, 58, 59, 60, 61] (by decide +kernel) (by decide +kernel)
set_option maxRecDepth 20000 in
theorem gX9_wind_X9_settles : GoodIn wsX9_wind (wsV RX9 101 RX9 yX9_settles wsX9_settles) := goodIn_app (goodIn_of _ (by decide +kernel)) ggX9_wind_X9_settles
theorem dX9_wind_0 : decode cX9_wind 0 = .ok (.aload_n 0, 1) := by decide +kernel
theorem dX9_wind_1 : decode cX9_wind 1 = .ok (.iload_n 1, 1) := by decide +kernel
theorem dX9_wind_2 : decode cX9_wind 2 = .ok (.iconst 1, 1) := by decide +kernel
theorem dX9_wind_3 : decode cX9_wind 3 = .ok (.bipush 9, 2) := by decide +kernel
theorem dX9_wind_5 : decode cX9_wind 5 = .ok (.invokestatic 75, 3) := by decide +kernel
theorem dX9_wind_8 : decode cX9_wind 8 = .ok (.invokevirtual 143, 3) := by decide +kernel
theorem dX9_wind_11 : decode cX9_wind 11 = .ok (.ifCond .le 5, 3) := by decide +kernel
theorem dX9_wind_14 : decode cX9_wind 14 = .ok (.iconst 0, 1) := by decide +kernel
theorem dX9_wind_15 : decode cX9_wind 15 = .ok (.ireturn, 1) := by decide +kernel
theorem dX9_wind_16 : decode cX9_wind 16 = .ok (.iconst 0, 1) := by decide +kernel
theorem dX9_wind_17 : decode cX9_wind 17 = .ok (.istore_n 2, 1) := by decide +kernel
theorem dX9_wind_18 : decode cX9_wind 18 = .ok (.iconst 0, 1) := by decide +kernel
theorem dX9_wind_19 : decode cX9_wind 19 = .ok (.istore_n 3, 1) := by decide +kernel
theorem dX9_wind_20 : decode cX9_wind 20 = .ok (.iload_n 3, 1) := by decide +kernel
theorem dX9_wind_21 : decode cX9_wind 21 = .ok (.bipush 42, 2) := by decide +kernel
theorem dX9_wind_23 : decode cX9_wind 23 = .ok (.if_icmp .ge 48, 3) := by decide +kernel
theorem dX9_wind_26 : decode cX9_wind 26 = .ok (.aload_n 0, 1) := by decide +kernel
theorem dX9_wind_27 : decode cX9_wind 27 = .ok (.getfield 31, 3) := by decide +kernel
theorem dX9_wind_30 : decode cX9_wind 30 = .ok (.iload_n 3, 1) := by decide +kernel
theorem dX9_wind_31 : decode cX9_wind 31 = .ok (.aload_n 0, 1) := by decide +kernel
theorem dX9_wind_32 : decode cX9_wind 32 = .ok (.getfield 34, 3) := by decide +kernel
theorem dX9_wind_35 : decode cX9_wind 35 = .ok (.iload_n 3, 1) := by decide +kernel
theorem dX9_wind_36 : decode cX9_wind 36 = .ok (.baload, 1) := by decide +kernel
theorem dX9_wind_37 : decode cX9_wind 37 = .ok (.ifCond .ne 26, 3) := by decide +kernel
theorem dX9_wind_40 : decode cX9_wind 40 = .ok (.aload_n 0, 1) := by decide +kernel
theorem dX9_wind_41 : decode cX9_wind 41 = .ok (.getfield 7, 3) := by decide +kernel
theorem dX9_wind_44 : decode cX9_wind 44 = .ok (.iload_n 3, 1) := by decide +kernel
theorem dX9_wind_45 : decode cX9_wind 45 = .ok (.iaload, 1) := by decide +kernel
theorem dX9_wind_46 : decode cX9_wind 46 = .ok (.iload_n 1, 1) := by decide +kernel
theorem dX9_wind_47 : decode cX9_wind 47 = .ok (.if_icmp .lt 16, 3) := by decide +kernel
theorem dX9_wind_50 : decode cX9_wind 50 = .ok (.aload_n 0, 1) := by decide +kernel
theorem dX9_wind_51 : decode cX9_wind 51 = .ok (.iload_n 3, 1) := by decide +kernel
theorem dX9_wind_52 : decode cX9_wind 52 = .ok (.iconst 1, 1) := by decide +kernel
theorem dX9_wind_53 : decode cX9_wind 53 = .ok (.invokevirtual 83, 3) := by decide +kernel
theorem dX9_wind_56 : decode cX9_wind 56 = .ok (.ifCond .eq 7, 3) := by decide +kernel
theorem dX9_wind_59 : decode cX9_wind 59 = .ok (.iconst 1, 1) := by decide +kernel
theorem dX9_wind_60 : decode cX9_wind 60 = .ok (.goto 4, 3) := by decide +kernel
theorem dX9_wind_63 : decode cX9_wind 63 = .ok (.iconst 0, 1) := by decide +kernel
theorem dX9_wind_64 : decode cX9_wind 64 = .ok (.iastore, 1) := by decide +kernel
theorem dX9_wind_65 : decode cX9_wind 65 = .ok (.iinc 3 1, 3) := by decide +kernel
theorem dX9_wind_68 : decode cX9_wind 68 = .ok (.goto (-48), 3) := by decide +kernel
theorem dX9_wind_71 : decode cX9_wind 71 = .ok (.iconst 0, 1) := by decide +kernel
theorem dX9_wind_72 : decode cX9_wind 72 = .ok (.istore_n 3, 1) := by decide +kernel
theorem dX9_wind_73 : decode cX9_wind 73 = .ok (.iload_n 3, 1) := by decide +kernel
theorem dX9_wind_74 : decode cX9_wind 74 = .ok (.bipush 42, 2) := by decide +kernel
theorem dX9_wind_76 : decode cX9_wind 76 = .ok (.if_icmp .ge 73, 3) := by decide +kernel
theorem dX9_wind_79 : decode cX9_wind 79 = .ok (.aload_n 0, 1) := by decide +kernel
theorem dX9_wind_80 : decode cX9_wind 80 = .ok (.getfield 31, 3) := by decide +kernel
theorem dX9_wind_83 : decode cX9_wind 83 = .ok (.iload_n 3, 1) := by decide +kernel
theorem dX9_wind_84 : decode cX9_wind 84 = .ok (.iaload, 1) := by decide +kernel
theorem dX9_wind_85 : decode cX9_wind 85 = .ok (.ifCond .ne 6, 3) := by decide +kernel
theorem dX9_wind_88 : decode cX9_wind 88 = .ok (.goto 55, 3) := by decide +kernel
theorem dX9_wind_91 : decode cX9_wind 91 = .ok (.iload_n 3, 1) := by decide +kernel
theorem dX9_wind_92 : decode cX9_wind 92 = .ok (.iconst 1, 1) := by decide +kernel
theorem dX9_wind_93 : decode cX9_wind 93 = .ok (.invokestatic 79, 3) := by decide +kernel
theorem dX9_wind_96 : decode cX9_wind 96 = .ok (.istore 4, 2) := by decide +kernel
theorem dX9_wind_98 : decode cX9_wind 98 = .ok (.aload_n 0, 1) := by decide +kernel
theorem dX9_wind_99 : decode cX9_wind 99 = .ok (.getfield 7, 3) := by decide +kernel
theorem dX9_wind_102 : decode cX9_wind 102 = .ok (.iload_n 3, 1) := by decide +kernel
theorem dX9_wind_103 : decode cX9_wind 103 = .ok (.dup2, 1) := by decide +kernel
theorem dX9_wind_104 : decode cX9_wind 104 = .ok (.iaload, 1) := by decide +kernel
theorem dX9_wind_105 : decode cX9_wind 105 = .ok (.iconst 1, 1) := by decide +kernel
theorem dX9_wind_106 : decode cX9_wind 106 = .ok (.isub, 1) := by decide +kernel
theorem dX9_wind_107 : decode cX9_wind 107 = .ok (.iastore, 1) := by decide +kernel
theorem dX9_wind_108 : decode cX9_wind 108 = .ok (.aload_n 0, 1) := by decide +kernel
theorem dX9_wind_109 : decode cX9_wind 109 = .ok (.getfield 13, 3) := by decide +kernel
theorem dX9_wind_112 : decode cX9_wind 112 = .ok (.iload_n 3, 1) := by decide +kernel
theorem dX9_wind_113 : decode cX9_wind 113 = .ok (.dup2, 1) := by decide +kernel
theorem dX9_wind_114 : decode cX9_wind 114 = .ok (.iaload, 1) := by decide +kernel
theorem dX9_wind_115 : decode cX9_wind 115 = .ok (.iconst 1, 1) := by decide +kernel
theorem dX9_wind_116 : decode cX9_wind 116 = .ok (.isub, 1) := by decide +kernel
theorem dX9_wind_117 : decode cX9_wind 117 = .ok (.iastore, 1) := by decide +kernel
theorem dX9_wind_118 : decode cX9_wind 118 = .ok (.aload_n 0, 1) := by decide +kernel
theorem dX9_wind_119 : decode cX9_wind 119 = .ok (.getfield 7, 3) := by decide +kernel
theorem dX9_wind_122 : decode cX9_wind 122 = .ok (.iload 4, 2) := by decide +kernel
theorem dX9_wind_124 : decode cX9_wind 124 = .ok (.dup2, 1) := by decide +kernel
theorem dX9_wind_125 : decode cX9_wind 125 = .ok (.iaload, 1) := by decide +kernel
theorem dX9_wind_126 : decode cX9_wind 126 = .ok (.iconst 1, 1) := by decide +kernel
theorem dX9_wind_127 : decode cX9_wind 127 = .ok (.iadd, 1) := by decide +kernel
theorem dX9_wind_128 : decode cX9_wind 128 = .ok (.iastore, 1) := by decide +kernel
theorem dX9_wind_129 : decode cX9_wind 129 = .ok (.aload_n 0, 1) := by decide +kernel
theorem dX9_wind_130 : decode cX9_wind 130 = .ok (.getfield 13, 3) := by decide +kernel
theorem dX9_wind_133 : decode cX9_wind 133 = .ok (.iload 4, 2) := by decide +kernel
theorem dX9_wind_135 : decode cX9_wind 135 = .ok (.dup2, 1) := by decide +kernel
theorem dX9_wind_136 : decode cX9_wind 136 = .ok (.iaload, 1) := by decide +kernel
theorem dX9_wind_137 : decode cX9_wind 137 = .ok (.iconst 1, 1) := by decide +kernel
theorem dX9_wind_138 : decode cX9_wind 138 = .ok (.iadd, 1) := by decide +kernel
theorem dX9_wind_139 : decode cX9_wind 139 = .ok (.iastore, 1) := by decide +kernel
theorem dX9_wind_140 : decode cX9_wind 140 = .ok (.iinc 2 1, 3) := by decide +kernel
theorem dX9_wind_143 : decode cX9_wind 143 = .ok (.iinc 3 1, 3) := by decide +kernel
theorem dX9_wind_146 : decode cX9_wind 146 = .ok (.goto (-73), 3) := by decide +kernel
theorem dX9_wind_149 : decode cX9_wind 149 = .ok (.aload_n 0, 1) := by decide +kernel
theorem dX9_wind_150 : decode cX9_wind 150 = .ok (.invokevirtual 101, 3) := by decide +kernel
theorem dX9_wind_153 : decode cX9_wind 153 = .ok (.istore_n 3, 1) := by decide +kernel
theorem dX9_wind_154 : decode cX9_wind 154 = .ok (.iload_n 2, 1) := by decide +kernel
theorem dX9_wind_155 : decode cX9_wind 155 = .ok (.ireturn, 1) := by decide +kernel
set_option maxRecDepth 20000 in
theorem ggX9_addStep_X9_isColumn : GoodIn wsX9_addStep wsX9_isColumn := goodIn_r _ [8, 9, 10, 7, 11] (by decide +kernel) (by decide +kernel)
set_option maxRecDepth 20000 in
theorem gX9_addStep_X9_isColumn : GoodIn wsX9_addStep (va_wsS RX9 150 yX9_isColumn wsX9_isColumn) := goodIn_app (goodIn_of _ (by decide +kernel)) ggX9_addStep_X9_isColumn
set_option maxRecDepth 20000 in
theorem ggX9_addStep_X9_in : GoodIn wsX9_addStep wsX9_in := goodIn_r _ [11] (by decide +kernel) (by decide +kernel)
set_option maxRecDepth 20000 in
theorem gX9_addStep_X9_in : GoodIn wsX9_addStep (va_wsS RX9 75 yX9_in wsX9_in) := goodIn_app (goodIn_of _ (by decide +kernel)) ggX9_addStep_X9_in
theorem dX9_addStep_0 : decode cX9_addStep 0 = .ok (.aload_n 0, 1) := by decide +kernel
theorem dX9_addStep_1 : decode cX9_addStep 1 = .ok (.iload_n 1, 1) := by decide +kernel
theorem dX9_addStep_2 : decode cX9_addStep 2 = .ok (.invokestatic 150, 3) := by decide +kernel
theorem dX9_addStep_5 : decode cX9_addStep 5 = .ok (.ifCond .ne 7, 3) := by decide +kernel
theorem dX9_addStep_8 : decode cX9_addStep 8 = .ok (.iconst 1, 1) := by decide +kernel
theorem dX9_addStep_9 : decode cX9_addStep 9 = .ok (.goto 31, 3) := by decide +kernel
theorem dX9_addStep_12 : decode cX9_addStep 12 = .ok (.iload_n 2, 1) := by decide +kernel
theorem dX9_addStep_13 : decode cX9_addStep 13 = .ok (.iconst 1, 1) := by decide +kernel
theorem dX9_addStep_14 : decode cX9_addStep 14 = .ok (.bipush 60, 2) := by decide +kernel
theorem dX9_addStep_16 : decode cX9_addStep 16 = .ok (.invokestatic 75, 3) := by decide +kernel
theorem dX9_addStep_19 : decode cX9_addStep 19 = .ok (.ifCond .ne 7, 3) := by decide +kernel
theorem dX9_addStep_22 : decode cX9_addStep 22 = .ok (.iconst 2, 1) := by decide +kernel
theorem dX9_addStep_23 : decode cX9_addStep 23 = .ok (.goto 17, 3) := by decide +kernel
theorem dX9_addStep_26 : decode cX9_addStep 26 = .ok (.aload_n 0, 1) := by decide +kernel
theorem dX9_addStep_27 : decode cX9_addStep 27 = .ok (.getfield 66, 3) := by decide +kernel
theorem dX9_addStep_30 : decode cX9_addStep 30 = .ok (.bipush 8, 2) := by decide +kernel
theorem dX9_addStep_32 : decode cX9_addStep 32 = .ok (.if_icmp .ne 7, 3) := by decide +kernel
theorem dX9_addStep_35 : decode cX9_addStep 35 = .ok (.iconst 3, 1) := by decide +kernel
theorem dX9_addStep_36 : decode cX9_addStep 36 = .ok (.goto 4, 3) := by decide +kernel
theorem dX9_addStep_39 : decode cX9_addStep 39 = .ok (.iconst 0, 1) := by decide +kernel
theorem dX9_addStep_40 : decode cX9_addStep 40 = .ok (.putfield 53, 3) := by decide +kernel
theorem dX9_addStep_43 : decode cX9_addStep 43 = .ok (.aload_n 0, 1) := by decide +kernel
theorem dX9_addStep_44 : decode cX9_addStep 44 = .ok (.getfield 53, 3) := by decide +kernel
theorem dX9_addStep_47 : decode cX9_addStep 47 = .ok (.ifCond .le 5, 3) := by decide +kernel
theorem dX9_addStep_50 : decode cX9_addStep 50 = .ok (.iconst 0, 1) := by decide +kernel
theorem dX9_addStep_51 : decode cX9_addStep 51 = .ok (.ireturn, 1) := by decide +kernel
theorem dX9_addStep_52 : decode cX9_addStep 52 = .ok (.aload_n 0, 1) := by decide +kernel
theorem dX9_addStep_53 : decode cX9_addStep 53 = .ok (.getfield 44, 3) := by decide +kernel
theorem dX9_addStep_56 : decode cX9_addStep 56 = .ok (.aload_n 0, 1) := by decide +kernel
theorem dX9_addStep_57 : decode cX9_addStep 57 = .ok (.getfield 66, 3) := by decide +kernel
theorem dX9_addStep_60 : decode cX9_addStep 60 = .ok (.iload_n 1, 1) := by decide +kernel
theorem dX9_addStep_61 : decode cX9_addStep 61 = .ok (.iastore, 1) := by decide +kernel
theorem dX9_addStep_62 : decode cX9_addStep 62 = .ok (.aload_n 0, 1) := by decide +kernel
theorem dX9_addStep_63 : decode cX9_addStep 63 = .ok (.getfield 47, 3) := by decide +kernel
theorem dX9_addStep_66 : decode cX9_addStep 66 = .ok (.aload_n 0, 1) := by decide +kernel
theorem dX9_addStep_67 : decode cX9_addStep 67 = .ok (.getfield 66, 3) := by decide +kernel
theorem dX9_addStep_70 : decode cX9_addStep 70 = .ok (.iload_n 2, 1) := by decide +kernel
theorem dX9_addStep_71 : decode cX9_addStep 71 = .ok (.iastore, 1) := by decide +kernel
theorem dX9_addStep_72 : decode cX9_addStep 72 = .ok (.aload_n 0, 1) := by decide +kernel
theorem dX9_addStep_73 : decode cX9_addStep 73 = .ok (.dup, 1) := by decide +kernel
theorem dX9_addStep_74 : decode cX9_addStep 74 = .ok (.getfield 66, 3) := by decide +kernel
theorem dX9_addStep_77 : decode cX9_addStep 77 = .ok (.iconst 1, 1) := by decide +kernel
theorem dX9_addStep_78 : decode cX9_addStep 78 = .ok (.iadd, 1) := by decide +kernel
theorem dX9_addStep_79 : decode cX9_addStep 79 = .ok (.putfield 66, 3) := by decide +kernel
theorem dX9_addStep_82 : decode cX9_addStep 82 = .ok (.aload_n 0, 1) := by decide +kernel
theorem dX9_addStep_83 : decode cX9_addStep 83 = .ok (.getfield 66, 3) := by decide +kernel
theorem dX9_addStep_86 : decode cX9_addStep 86 = .ok (.ireturn, 1) := by decide +kernel
set_option maxRecDepth 20000 in
theorem ggX9_clearStorm_X9_plain : GoodIn wsX9_clearStorm wsX9_plain := goodIn_r _ [6, 7, 8, 9, 10, 11, 12, 13, 14, 15, 16, 17, 18, 19, 20, 21, 22, 23, 24, 25, 26, 27, 28] (by decide +kernel) (by decide +kernel)
set_option maxRecDepth 20000 in
theorem gX9_clearStorm_X9_plain : GoodIn wsX9_clearStorm (wsV RX9 157 RX9 yX9_plain wsX9_plain) := goodIn_app (goodIn_of _ (by decide +kernel)) ggX9_clearStorm_X9_plain
theorem dX9_clearStorm_0 : decode cX9_clearStorm 0 = .ok (.aload_n 0, 1) := by decide +kernel
theorem dX9_clearStorm_1 : decode cX9_clearStorm 1 = .ok (.getfield 66, 3) := by decide +kernel
theorem dX9_clearStorm_4 : decode cX9_clearStorm 4 = .ok (.istore_n 1, 1) := by decide +kernel
theorem dX9_clearStorm_5 : decode cX9_clearStorm 5 = .ok (.aload_n 0, 1) := by decide +kernel
theorem dX9_clearStorm_6 : decode cX9_clearStorm 6 = .ok (.iconst 0, 1) := by decide +kernel
theorem dX9_clearStorm_7 : decode cX9_clearStorm 7 = .ok (.putfield 66, 3) := by decide +kernel
theorem dX9_clearStorm_10 : decode cX9_clearStorm 10 = .ok (.aload_n 0, 1) := by decide +kernel
theorem dX9_clearStorm_11 : decode cX9_clearStorm 11 = .ok (.iload_n 1, 1) := by decide +kernel
theorem dX9_clearStorm_12 : decode cX9_clearStorm 12 = .ok (.invokevirtual 157, 3) := by decide +kernel
theorem dX9_clearStorm_15 : decode cX9_clearStorm 15 = .ok (.ireturn, 1) := by decide +kernel
set_option maxRecDepth 20000 in
theorem ggX9_storm_X9_in : GoodIn wsX9_storm wsX9_in := goodIn_r _ [9] (by decide +kernel) (by decide +kernel)
set_option maxRecDepth 20000 in
theorem gX9_storm_X9_in : GoodIn wsX9_storm (va_wsS RX9 75 yX9_in wsX9_in) := goodIn_app (goodIn_of _ (by decide +kernel)) ggX9_storm_X9_in
set_option maxRecDepth 20000 in
theorem ggX9_storm_X9_runs : GoodIn wsX9_storm wsX9_runs := goodIn_r _ [13, 14, 15, 16, 3, 17, 18, 8, 19, 20, 21, 22, 23, 24, 25, 26, 27, 28, 29, 30, 31, 32, 33, 34, 35, 36, 37, 38, 39, 40, 41, 42, 43, 44, 45, 46, 47, 48, 49, 50, 51, 52, 53, 54, 55, 56, 57, 58, 59, 60, 61, 62, 63, 64, 65, 66, 67, 68, 69, 70] (by decide +kernel) (by decide +kernel)
set_option maxRecDepth 20000 in
theorem gX9_storm_X9_runs : GoodIn wsX9_storm (wsV RX9 154 RX9 yX9_runs wsX9_runs) := goodIn_app (goodIn_of _ (by decide +kernel)) ggX9_storm_X9_runs
theorem dX9_storm_0 : decode cX9_storm 0 = .ok (.aload_n 0, 1) := by decide +kernel
theorem dX9_storm_1 : decode cX9_storm 1 = .ok (.iload_n 1, 1) := by decide +kernel
theorem dX9_storm_2 : decode cX9_storm 2 = .ok (.iconst 1, 1) := by decide +kernel
theorem dX9_storm_3 : decode cX9_storm 3 = .ok (.iconst 5, 1) := by decide +kernel
theorem dX9_storm_4 : decode cX9_storm 4 = .ok (.invokestatic 75, 3) := by decide +kernel
theorem dX9_storm_7 : decode cX9_storm 7 = .ok (.ifCond .ne 7, 3) := by decide +kernel
theorem dX9_storm_10 : decode cX9_storm 10 = .ok (.iconst 1, 1) := by decide +kernel
theorem dX9_storm_11 : decode cX9_storm 11 = .ok (.goto 15, 3) := by decide +kernel
theorem dX9_storm_14 : decode cX9_storm 14 = .ok (.aload_n 0, 1) := by decide +kernel
theorem dX9_storm_15 : decode cX9_storm 15 = .ok (.getfield 66, 3) := by decide +kernel
theorem dX9_storm_18 : decode cX9_storm 18 = .ok (.ifCond .ne 7, 3) := by decide +kernel
theorem dX9_storm_21 : decode cX9_storm 21 = .ok (.iconst 2, 1) := by decide +kernel
theorem dX9_storm_22 : decode cX9_storm 22 = .ok (.goto 4, 3) := by decide +kernel
theorem dX9_storm_25 : decode cX9_storm 25 = .ok (.iconst 0, 1) := by decide +kernel
theorem dX9_storm_26 : decode cX9_storm 26 = .ok (.putfield 53, 3) := by decide +kernel
theorem dX9_storm_29 : decode cX9_storm 29 = .ok (.aload_n 0, 1) := by decide +kernel
theorem dX9_storm_30 : decode cX9_storm 30 = .ok (.getfield 53, 3) := by decide +kernel
theorem dX9_storm_33 : decode cX9_storm 33 = .ok (.ifCond .le 5, 3) := by decide +kernel
theorem dX9_storm_36 : decode cX9_storm 36 = .ok (.iconst 0, 1) := by decide +kernel
theorem dX9_storm_37 : decode cX9_storm 37 = .ok (.ireturn, 1) := by decide +kernel
theorem dX9_storm_38 : decode cX9_storm 38 = .ok (.aload_n 0, 1) := by decide +kernel
theorem dX9_storm_39 : decode cX9_storm 39 = .ok (.getfield 57, 3) := by decide +kernel
theorem dX9_storm_42 : decode cX9_storm 42 = .ok (.istore_n 2, 1) := by decide +kernel
theorem dX9_storm_43 : decode cX9_storm 43 = .ok (.iconst 0, 1) := by decide +kernel
theorem dX9_storm_44 : decode cX9_storm 44 = .ok (.istore_n 3, 1) := by decide +kernel
theorem dX9_storm_45 : decode cX9_storm 45 = .ok (.iload_n 3, 1) := by decide +kernel
theorem dX9_storm_46 : decode cX9_storm 46 = .ok (.iload_n 1, 1) := by decide +kernel
theorem dX9_storm_47 : decode cX9_storm 47 = .ok (.if_icmp .ge 47, 3) := by decide +kernel
theorem dX9_storm_50 : decode cX9_storm 50 = .ok (.iconst 0, 1) := by decide +kernel
theorem dX9_storm_51 : decode cX9_storm 51 = .ok (.istore 4, 2) := by decide +kernel
theorem dX9_storm_53 : decode cX9_storm 53 = .ok (.iload 4, 2) := by decide +kernel
theorem dX9_storm_55 : decode cX9_storm 55 = .ok (.aload_n 0, 1) := by decide +kernel
theorem dX9_storm_56 : decode cX9_storm 56 = .ok (.getfield 66, 3) := by decide +kernel
theorem dX9_storm_59 : decode cX9_storm 59 = .ok (.if_icmp .ge 29, 3) := by decide +kernel
theorem dX9_storm_62 : decode cX9_storm 62 = .ok (.aload_n 0, 1) := by decide +kernel
theorem dX9_storm_63 : decode cX9_storm 63 = .ok (.aload_n 0, 1) := by decide +kernel
theorem dX9_storm_64 : decode cX9_storm 64 = .ok (.getfield 44, 3) := by decide +kernel
theorem dX9_storm_67 : decode cX9_storm 67 = .ok (.iload 4, 2) := by decide +kernel
theorem dX9_storm_69 : decode cX9_storm 69 = .ok (.iaload, 1) := by decide +kernel
theorem dX9_storm_70 : decode cX9_storm 70 = .ok (.aload_n 0, 1) := by decide +kernel
theorem dX9_storm_71 : decode cX9_storm 71 = .ok (.getfield 47, 3) := by decide +kernel
theorem dX9_storm_74 : decode cX9_storm 74 = .ok (.iload 4, 2) := by decide +kernel
theorem dX9_storm_76 : decode cX9_storm 76 = .ok (.iaload, 1) := by decide +kernel
theorem dX9_storm_77 : decode cX9_storm 77 = .ok (.invokevirtual 154, 3) := by decide +kernel
theorem dX9_storm_80 : decode cX9_storm 80 = .ok (.istore 5, 2) := by decide +kernel
theorem dX9_storm_82 : decode cX9_storm 82 = .ok (.iinc 4 1, 3) := by decide +kernel
theorem dX9_storm_85 : decode cX9_storm 85 = .ok (.goto (-32), 3) := by decide +kernel
theorem dX9_storm_88 : decode cX9_storm 88 = .ok (.iinc 3 1, 3) := by decide +kernel
theorem dX9_storm_91 : decode cX9_storm 91 = .ok (.goto (-46), 3) := by decide +kernel
theorem dX9_storm_94 : decode cX9_storm 94 = .ok (.aload_n 0, 1) := by decide +kernel
theorem dX9_storm_95 : decode cX9_storm 95 = .ok (.getfield 57, 3) := by decide +kernel
theorem dX9_storm_98 : decode cX9_storm 98 = .ok (.iload_n 2, 1) := by decide +kernel
theorem dX9_storm_99 : decode cX9_storm 99 = .ok (.isub, 1) := by decide +kernel
theorem dX9_storm_100 : decode cX9_storm 100 = .ok (.ireturn, 1) := by decide +kernel
set_option maxRecDepth 20000 in
theorem ggX9_height_X9_isCell : GoodIn wsX9_height wsX9_isCell := goodIn_r _ [5, 6, 7, 4, 8] (by decide +kernel) (by decide +kernel)
set_option maxRecDepth 20000 in
theorem gX9_height_X9_isCell : GoodIn wsX9_height (va_wsS RX9 98 yX9_isCell wsX9_isCell) := goodIn_app (goodIn_of _ (by decide +kernel)) ggX9_height_X9_isCell
set_option maxRecDepth 20000 in
theorem ggX9_height_X9_checked : GoodIn wsX9_height wsX9_checked := goodIn_r _ [12, 13, 17, 18, 19, 20, 21, 22, 23, 24, 25, 26, 27, 28, 29, 30, 31, 32, 33, 34, 35, 36, 37] (by decide +kernel) (by decide +kernel)
set_option maxRecDepth 20000 in
theorem gX9_height_X9_checked : GoodIn wsX9_height (wsV RX9 143 RX9 yX9_checked wsX9_checked) := goodIn_app (goodIn_of _ (by decide +kernel)) ggX9_height_X9_checked
set_option maxRecDepth 20000 in
theorem ggX9_height_X9_at : GoodIn wsX9_height wsX9_at := goodIn_r _ [16] (by decide +kernel) (by decide +kernel)
set_option maxRecDepth 20000 in
theorem gX9_height_X9_at : GoodIn wsX9_height (va_wsS RX9 108 yX9_at wsX9_at) := goodIn_app (goodIn_of _ (by decide +kernel)) ggX9_height_X9_at
theorem dX9_height_0 : decode cX9_height 0 = .ok (.aload_n 0, 1) := by decide +kernel
theorem dX9_height_1 : decode cX9_height 1 = .ok (.iload_n 1, 1) := by decide +kernel
theorem dX9_height_2 : decode cX9_height 2 = .ok (.iload_n 2, 1) := by decide +kernel
theorem dX9_height_3 : decode cX9_height 3 = .ok (.invokestatic 98, 3) := by decide +kernel
theorem dX9_height_6 : decode cX9_height 6 = .ok (.invokevirtual 143, 3) := by decide +kernel
theorem dX9_height_9 : decode cX9_height 9 = .ok (.ifCond .le 7, 3) := by decide +kernel
theorem dX9_height_12 : decode cX9_height 12 = .ok (.iconst 0, 1) := by decide +kernel
theorem dX9_height_13 : decode cX9_height 13 = .ok (.goto 13, 3) := by decide +kernel
theorem dX9_height_16 : decode cX9_height 16 = .ok (.aload_n 0, 1) := by decide +kernel
theorem dX9_height_17 : decode cX9_height 17 = .ok (.getfield 7, 3) := by decide +kernel
theorem dX9_height_20 : decode cX9_height 20 = .ok (.iload_n 1, 1) := by decide +kernel
theorem dX9_height_21 : decode cX9_height 21 = .ok (.iload_n 2, 1) := by decide +kernel
theorem dX9_height_22 : decode cX9_height 22 = .ok (.invokestatic 108, 3) := by decide +kernel
theorem dX9_height_25 : decode cX9_height 25 = .ok (.iaload, 1) := by decide +kernel
theorem dX9_height_26 : decode cX9_height 26 = .ok (.ireturn, 1) := by decide +kernel
set_option maxRecDepth 20000 in
theorem ggX9_heightByFlows_X9_isCell : GoodIn wsX9_heightByFlows wsX9_isCell := goodIn_r _ [6, 7, 8, 5, 9] (by decide +kernel) (by decide +kernel)
set_option maxRecDepth 20000 in
theorem gX9_heightByFlows_X9_isCell : GoodIn wsX9_heightByFlows (va_wsS RX9 98 yX9_isCell wsX9_isCell) := goodIn_app (goodIn_of _ (by decide +kernel)) ggX9_heightByFlows_X9_isCell
set_option maxRecDepth 20000 in
theorem ggX9_heightByFlows_X9_checked : GoodIn wsX9_heightByFlows wsX9_checked := goodIn_r _ [13, 14, 18, 19, 20, 21, 22, 23, 24, 25, 26, 27, 28, 29, 30, 31, 32, 33, 34, 35, 36, 37, 38] (by decide +kernel) (by decide +kernel)
set_option maxRecDepth 20000 in
theorem gX9_heightByFlows_X9_checked : GoodIn wsX9_heightByFlows (wsV RX9 143 RX9 yX9_checked wsX9_checked) := goodIn_app (goodIn_of _ (by decide +kernel)) ggX9_heightByFlows_X9_checked
set_option maxRecDepth 20000 in
theorem ggX9_heightByFlows_X9_at : GoodIn wsX9_heightByFlows wsX9_at := goodIn_r _ [17] (by decide +kernel) (by decide +kernel)
set_option maxRecDepth 20000 in
theorem gX9_heightByFlows_X9_at : GoodIn wsX9_heightByFlows (va_wsS RX9 108 yX9_at wsX9_at) := goodIn_app (goodIn_of _ (by decide +kernel)) ggX9_heightByFlows_X9_at
theorem dX9_heightByFlows_0 : decode cX9_heightByFlows 0 = .ok (.aload_n 0, 1) := by decide +kernel
theorem dX9_heightByFlows_1 : decode cX9_heightByFlows 1 = .ok (.iload_n 1, 1) := by decide +kernel
theorem dX9_heightByFlows_2 : decode cX9_heightByFlows 2 = .ok (.iload_n 2, 1) := by decide +kernel
theorem dX9_heightByFlows_3 : decode cX9_heightByFlows 3 = .ok (.invokestatic 98, 3) := by decide +kernel
theorem dX9_heightByFlows_6 : decode cX9_heightByFlows 6 = .ok (.invokevirtual 143, 3) := by decide +kernel
theorem dX9_heightByFlows_9 : decode cX9_heightByFlows 9 = .ok (.ifCond .le 5, 3) := by decide +kernel
theorem dX9_heightByFlows_12 : decode cX9_heightByFlows 12 = .ok (.iconst 0, 1) := by decide +kernel
theorem dX9_heightByFlows_13 : decode cX9_heightByFlows 13 = .ok (.ireturn, 1) := by decide +kernel
theorem dX9_heightByFlows_14 : decode cX9_heightByFlows 14 = .ok (.iload_n 1, 1) := by decide +kernel
theorem dX9_heightByFlows_15 : decode cX9_heightByFlows 15 = .ok (.iload_n 2, 1) := by decide +kernel
theorem dX9_heightByFlows_16 : decode cX9_heightByFlows 16 = .ok (.invokestatic 108, 3) := by decide +kernel
theorem dX9_heightByFlows_19 : decode cX9_heightByFlows 19 = .ok (.istore_n 3, 1) := by decide +kernel
theorem dX9_heightByFlows_20 : decode cX9_heightByFlows 20 = .ok (.aload_n 0, 1) := by decide +kernel
theorem dX9_heightByFlows_21 : decode cX9_heightByFlows 21 = .ok (.getfield 13, 3) := by decide +kernel
theorem dX9_heightByFlows_24 : decode cX9_heightByFlows 24 = .ok (.iload_n 3, 1) := by decide +kernel
theorem dX9_heightByFlows_25 : decode cX9_heightByFlows 25 = .ok (.iaload, 1) := by decide +kernel
theorem dX9_heightByFlows_26 : decode cX9_heightByFlows 26 = .ok (.istore 4, 2) := by decide +kernel
theorem dX9_heightByFlows_28 : decode cX9_heightByFlows 28 = .ok (.iconst 0, 1) := by decide +kernel
theorem dX9_heightByFlows_29 : decode cX9_heightByFlows 29 = .ok (.istore 5, 2) := by decide +kernel
theorem dX9_heightByFlows_31 : decode cX9_heightByFlows 31 = .ok (.iload 5, 2) := by decide +kernel
theorem dX9_heightByFlows_33 : decode cX9_heightByFlows 33 = .ok (.iconst 4, 1) := by decide +kernel
theorem dX9_heightByFlows_34 : decode cX9_heightByFlows 34 = .ok (.if_icmp .ge 25, 3) := by decide +kernel
theorem dX9_heightByFlows_37 : decode cX9_heightByFlows 37 = .ok (.iload 4, 2) := by decide +kernel
theorem dX9_heightByFlows_39 : decode cX9_heightByFlows 39 = .ok (.aload_n 0, 1) := by decide +kernel
theorem dX9_heightByFlows_40 : decode cX9_heightByFlows 40 = .ok (.getfield 19, 3) := by decide +kernel
theorem dX9_heightByFlows_43 : decode cX9_heightByFlows 43 = .ok (.iconst 4, 1) := by decide +kernel
theorem dX9_heightByFlows_44 : decode cX9_heightByFlows 44 = .ok (.iload_n 3, 1) := by decide +kernel
theorem dX9_heightByFlows_45 : decode cX9_heightByFlows 45 = .ok (.imul, 1) := by decide +kernel
theorem dX9_heightByFlows_46 : decode cX9_heightByFlows 46 = .ok (.iload 5, 2) := by decide +kernel
theorem dX9_heightByFlows_48 : decode cX9_heightByFlows 48 = .ok (.iadd, 1) := by decide +kernel
theorem dX9_heightByFlows_49 : decode cX9_heightByFlows 49 = .ok (.iaload, 1) := by decide +kernel
theorem dX9_heightByFlows_50 : decode cX9_heightByFlows 50 = .ok (.isub, 1) := by decide +kernel
theorem dX9_heightByFlows_51 : decode cX9_heightByFlows 51 = .ok (.istore 4, 2) := by decide +kernel
theorem dX9_heightByFlows_53 : decode cX9_heightByFlows 53 = .ok (.iinc 5 1, 3) := by decide +kernel
theorem dX9_heightByFlows_56 : decode cX9_heightByFlows 56 = .ok (.goto (-25), 3) := by decide +kernel
theorem dX9_heightByFlows_59 : decode cX9_heightByFlows 59 = .ok (.iload 4, 2) := by decide +kernel
theorem dX9_heightByFlows_61 : decode cX9_heightByFlows 61 = .ok (.ireturn, 1) := by decide +kernel
set_option maxRecDepth 20000 in
theorem ggX9_flow_X9_wrongSide : GoodIn wsX9_flow wsX9_wrongSide := goodIn_r _ [7, 8, 9, 6, 10, 11, 12, 13, 14, 15, 16] (by decide +kernel) (by decide +kernel)
set_option maxRecDepth 20000 in
theorem gX9_flow_X9_wrongSide : GoodIn wsX9_flow (wsV RX9 131 RX9 yX9_wrongSide wsX9_wrongSide) := goodIn_app (goodIn_of _ (by decide +kernel)) ggX9_flow_X9_wrongSide
set_option maxRecDepth 20000 in
theorem ggX9_flow_X9_at : GoodIn wsX9_flow wsX9_at := goodIn_r _ [19] (by decide +kernel) (by decide +kernel)
set_option maxRecDepth 20000 in
theorem gX9_flow_X9_at : GoodIn wsX9_flow (va_wsS RX9 108 yX9_at wsX9_at) := goodIn_app (goodIn_of _ (by decide +kernel)) ggX9_flow_X9_at
set_option maxRecDepth 20000 in
theorem ggX9_flow_X9_sideOf : GoodIn wsX9_flow wsX9_sideOf := goodIn_r _ [16] (by decide +kernel) (by decide +kernel)
set_option maxRecDepth 20000 in
theorem gX9_flow_X9_sideOf : GoodIn wsX9_flow (va_wsS RX9 127 yX9_sideOf wsX9_sideOf) := goodIn_app (goodIn_of _ (by decide +kernel)) ggX9_flow_X9_sideOf
theorem dX9_flow_0 : decode cX9_flow 0 = .ok (.aload_n 0, 1) := by decide +kernel
theorem dX9_flow_1 : decode cX9_flow 1 = .ok (.aload_n 0, 1) := by decide +kernel
theorem dX9_flow_2 : decode cX9_flow 2 = .ok (.iload_n 1, 1) := by decide +kernel
theorem dX9_flow_3 : decode cX9_flow 3 = .ok (.iload_n 2, 1) := by decide +kernel
theorem dX9_flow_4 : decode cX9_flow 4 = .ok (.iload_n 3, 1) := by decide +kernel
theorem dX9_flow_5 : decode cX9_flow 5 = .ok (.invokevirtual 131, 3) := by decide +kernel
theorem dX9_flow_8 : decode cX9_flow 8 = .ok (.putfield 53, 3) := by decide +kernel
theorem dX9_flow_11 : decode cX9_flow 11 = .ok (.aload_n 0, 1) := by decide +kernel
theorem dX9_flow_12 : decode cX9_flow 12 = .ok (.getfield 53, 3) := by decide +kernel
theorem dX9_flow_15 : decode cX9_flow 15 = .ok (.ifCond .le 7, 3) := by decide +kernel
theorem dX9_flow_18 : decode cX9_flow 18 = .ok (.iconst 0, 1) := by decide +kernel
theorem dX9_flow_19 : decode cX9_flow 19 = .ok (.goto 20, 3) := by decide +kernel
theorem dX9_flow_22 : decode cX9_flow 22 = .ok (.aload_n 0, 1) := by decide +kernel
theorem dX9_flow_23 : decode cX9_flow 23 = .ok (.getfield 19, 3) := by decide +kernel
theorem dX9_flow_26 : decode cX9_flow 26 = .ok (.iconst 4, 1) := by decide +kernel
theorem dX9_flow_27 : decode cX9_flow 27 = .ok (.iload_n 1, 1) := by decide +kernel
theorem dX9_flow_28 : decode cX9_flow 28 = .ok (.iload_n 2, 1) := by decide +kernel
theorem dX9_flow_29 : decode cX9_flow 29 = .ok (.invokestatic 108, 3) := by decide +kernel
theorem dX9_flow_32 : decode cX9_flow 32 = .ok (.imul, 1) := by decide +kernel
theorem dX9_flow_33 : decode cX9_flow 33 = .ok (.iload_n 3, 1) := by decide +kernel
theorem dX9_flow_34 : decode cX9_flow 34 = .ok (.invokestatic 127, 3) := by decide +kernel
theorem dX9_flow_37 : decode cX9_flow 37 = .ok (.iadd, 1) := by decide +kernel
theorem dX9_flow_38 : decode cX9_flow 38 = .ok (.iaload, 1) := by decide +kernel
theorem dX9_flow_39 : decode cX9_flow 39 = .ok (.ireturn, 1) := by decide +kernel
set_option maxRecDepth 20000 in
theorem ggX9_topplings_X9_isCell : GoodIn wsX9_topplings wsX9_isCell := goodIn_r _ [5, 6, 7, 4, 8] (by decide +kernel) (by decide +kernel)
set_option maxRecDepth 20000 in
theorem gX9_topplings_X9_isCell : GoodIn wsX9_topplings (va_wsS RX9 98 yX9_isCell wsX9_isCell) := goodIn_app (goodIn_of _ (by decide +kernel)) ggX9_topplings_X9_isCell
set_option maxRecDepth 20000 in
theorem ggX9_topplings_X9_checked : GoodIn wsX9_topplings wsX9_checked := goodIn_r _ [12, 13, 17, 18, 19, 20, 21, 22, 23, 24, 25, 26, 27, 28, 29, 30, 31, 32, 33, 34, 35, 36, 37] (by decide +kernel) (by decide +kernel)
set_option maxRecDepth 20000 in
theorem gX9_topplings_X9_checked : GoodIn wsX9_topplings (wsV RX9 143 RX9 yX9_checked wsX9_checked) := goodIn_app (goodIn_of _ (by decide +kernel)) ggX9_topplings_X9_checked
set_option maxRecDepth 20000 in
theorem ggX9_topplings_X9_at : GoodIn wsX9_topplings wsX9_at := goodIn_r _ [16] (by decide +kernel) (by decide +kernel)
set_option maxRecDepth 20000 in
theorem gX9_topplings_X9_at : GoodIn wsX9_topplings (va_wsS RX9 108 yX9_at wsX9_at) := goodIn_app (goodIn_of _ (by decide +kernel)) ggX9_topplings_X9_at
theorem dX9_topplings_0 : decode cX9_topplings 0 = .ok (.aload_n 0, 1) := by decide +kernel
theorem dX9_topplings_1 : decode cX9_topplings 1 = .ok (.iload_n 1, 1) := by decide +kernel
theorem dX9_topplings_2 : decode cX9_topplings 2 = .ok (.iload_n 2, 1) := by decide +kernel
theorem dX9_topplings_3 : decode cX9_topplings 3 = .ok (.invokestatic 98, 3) := by decide +kernel
theorem dX9_topplings_6 : decode cX9_topplings 6 = .ok (.invokevirtual 143, 3) := by decide +kernel
theorem dX9_topplings_9 : decode cX9_topplings 9 = .ok (.ifCond .le 7, 3) := by decide +kernel
theorem dX9_topplings_12 : decode cX9_topplings 12 = .ok (.iconst 0, 1) := by decide +kernel
theorem dX9_topplings_13 : decode cX9_topplings 13 = .ok (.goto 13, 3) := by decide +kernel
theorem dX9_topplings_16 : decode cX9_topplings 16 = .ok (.aload_n 0, 1) := by decide +kernel
theorem dX9_topplings_17 : decode cX9_topplings 17 = .ok (.getfield 16, 3) := by decide +kernel
theorem dX9_topplings_20 : decode cX9_topplings 20 = .ok (.iload_n 1, 1) := by decide +kernel
theorem dX9_topplings_21 : decode cX9_topplings 21 = .ok (.iload_n 2, 1) := by decide +kernel
theorem dX9_topplings_22 : decode cX9_topplings 22 = .ok (.invokestatic 108, 3) := by decide +kernel
theorem dX9_topplings_25 : decode cX9_topplings 25 = .ok (.iaload, 1) := by decide +kernel
theorem dX9_topplings_26 : decode cX9_topplings 26 = .ok (.ireturn, 1) := by decide +kernel
set_option maxRecDepth 20000 in
theorem ggX9_highest_X9_isColumn : GoodIn wsX9_highest wsX9_isColumn := goodIn_r _ [5, 6, 7, 4, 8] (by decide +kernel) (by decide +kernel)
set_option maxRecDepth 20000 in
theorem gX9_highest_X9_isColumn : GoodIn wsX9_highest (va_wsS RX9 150 yX9_isColumn wsX9_isColumn) := goodIn_app (goodIn_of _ (by decide +kernel)) ggX9_highest_X9_isColumn
set_option maxRecDepth 20000 in
theorem ggX9_highest_X9_checked : GoodIn wsX9_highest wsX9_checked := goodIn_r _ [12, 13, 17, 18, 19, 20, 21, 22, 23, 24, 25, 26, 27, 28, 29, 30, 31, 32, 33, 34, 35, 36, 37] (by decide +kernel) (by decide +kernel)
set_option maxRecDepth 20000 in
theorem gX9_highest_X9_checked : GoodIn wsX9_highest (wsV RX9 143 RX9 yX9_checked wsX9_checked) := goodIn_app (goodIn_of _ (by decide +kernel)) ggX9_highest_X9_checked
set_option maxRecDepth 20000 in
theorem ggX9_highest_X9_at : GoodIn wsX9_highest wsX9_at := goodIn_r _ [16] (by decide +kernel) (by decide +kernel)
set_option maxRecDepth 20000 in
theorem gX9_highest_X9_at : GoodIn wsX9_highest (va_wsS RX9 108 yX9_at wsX9_at) := goodIn_app (goodIn_of _ (by decide +kernel)) ggX9_highest_X9_at
theorem dX9_highest_0 : decode cX9_highest 0 = .ok (.aload_n 0, 1) := by decide +kernel
theorem dX9_highest_1 : decode cX9_highest 1 = .ok (.iload_n 1, 1) := by decide +kernel
theorem dX9_highest_2 : decode cX9_highest 2 = .ok (.invokestatic 150, 3) := by decide +kernel
theorem dX9_highest_5 : decode cX9_highest 5 = .ok (.invokevirtual 143, 3) := by decide +kernel
theorem dX9_highest_8 : decode cX9_highest 8 = .ok (.ifCond .le 5, 3) := by decide +kernel
theorem dX9_highest_11 : decode cX9_highest 11 = .ok (.iconst 0, 1) := by decide +kernel
theorem dX9_highest_12 : decode cX9_highest 12 = .ok (.ireturn, 1) := by decide +kernel
theorem dX9_highest_13 : decode cX9_highest 13 = .ok (.iconst 0, 1) := by decide +kernel
theorem dX9_highest_14 : decode cX9_highest 14 = .ok (.istore_n 2, 1) := by decide +kernel
theorem dX9_highest_15 : decode cX9_highest 15 = .ok (.iconst 1, 1) := by decide +kernel
theorem dX9_highest_16 : decode cX9_highest 16 = .ok (.istore_n 3, 1) := by decide +kernel
theorem dX9_highest_17 : decode cX9_highest 17 = .ok (.iload_n 3, 1) := by decide +kernel
theorem dX9_highest_18 : decode cX9_highest 18 = .ok (.bipush 7, 2) := by decide +kernel
theorem dX9_highest_20 : decode cX9_highest 20 = .ok (.if_icmp .ge 38, 3) := by decide +kernel
theorem dX9_highest_23 : decode cX9_highest 23 = .ok (.aload_n 0, 1) := by decide +kernel
theorem dX9_highest_24 : decode cX9_highest 24 = .ok (.getfield 7, 3) := by decide +kernel
theorem dX9_highest_27 : decode cX9_highest 27 = .ok (.iload_n 1, 1) := by decide +kernel
theorem dX9_highest_28 : decode cX9_highest 28 = .ok (.iload_n 3, 1) := by decide +kernel
theorem dX9_highest_29 : decode cX9_highest 29 = .ok (.invokestatic 108, 3) := by decide +kernel
theorem dX9_highest_32 : decode cX9_highest 32 = .ok (.iaload, 1) := by decide +kernel
theorem dX9_highest_33 : decode cX9_highest 33 = .ok (.aload_n 0, 1) := by decide +kernel
theorem dX9_highest_34 : decode cX9_highest 34 = .ok (.getfield 7, 3) := by decide +kernel
theorem dX9_highest_37 : decode cX9_highest 37 = .ok (.iload_n 1, 1) := by decide +kernel
theorem dX9_highest_38 : decode cX9_highest 38 = .ok (.iload_n 2, 1) := by decide +kernel
theorem dX9_highest_39 : decode cX9_highest 39 = .ok (.invokestatic 108, 3) := by decide +kernel
theorem dX9_highest_42 : decode cX9_highest 42 = .ok (.iaload, 1) := by decide +kernel
theorem dX9_highest_43 : decode cX9_highest 43 = .ok (.if_icmp .le 7, 3) := by decide +kernel
theorem dX9_highest_46 : decode cX9_highest 46 = .ok (.iload_n 3, 1) := by decide +kernel
theorem dX9_highest_47 : decode cX9_highest 47 = .ok (.goto 4, 3) := by decide +kernel
theorem dX9_highest_50 : decode cX9_highest 50 = .ok (.iload_n 2, 1) := by decide +kernel
theorem dX9_highest_51 : decode cX9_highest 51 = .ok (.istore_n 2, 1) := by decide +kernel
theorem dX9_highest_52 : decode cX9_highest 52 = .ok (.iinc 3 1, 3) := by decide +kernel
theorem dX9_highest_55 : decode cX9_highest 55 = .ok (.goto (-38), 3) := by decide +kernel
theorem dX9_highest_58 : decode cX9_highest 58 = .ok (.iload_n 2, 1) := by decide +kernel
theorem dX9_highest_59 : decode cX9_highest 59 = .ok (.ireturn, 1) := by decide +kernel
set_option maxRecDepth 20000 in
theorem ggX9_roughness_X9_isColumn : GoodIn wsX9_roughness wsX9_isColumn := goodIn_r _ [5, 6, 7, 4, 8] (by decide +kernel) (by decide +kernel)
set_option maxRecDepth 20000 in
theorem gX9_roughness_X9_isColumn : GoodIn wsX9_roughness (va_wsS RX9 150 yX9_isColumn wsX9_isColumn) := goodIn_app (goodIn_of _ (by decide +kernel)) ggX9_roughness_X9_isColumn
set_option maxRecDepth 20000 in
theorem ggX9_roughness_X9_checked : GoodIn wsX9_roughness wsX9_checked := goodIn_r _ [12, 13, 17, 18, 19, 20, 21, 22, 23, 24, 25, 26, 27, 28, 29, 30, 31, 32, 33, 34, 35, 36, 37] (by decide +kernel) (by decide +kernel)
set_option maxRecDepth 20000 in
theorem gX9_roughness_X9_checked : GoodIn wsX9_roughness (wsV RX9 143 RX9 yX9_checked wsX9_checked) := goodIn_app (goodIn_of _ (by decide +kernel)) ggX9_roughness_X9_checked
set_option maxRecDepth 20000 in
theorem ggX9_roughness_X9_at : GoodIn wsX9_roughness wsX9_at := goodIn_r _ [16] (by decide +kernel) (by decide +kernel)
set_option maxRecDepth 20000 in
theorem gX9_roughness_X9_at : GoodIn wsX9_roughness (va_wsS RX9 108 yX9_at wsX9_at) := goodIn_app (goodIn_of _ (by decide +kernel)) ggX9_roughness_X9_at
theorem dX9_roughness_0 : decode cX9_roughness 0 = .ok (.aload_n 0, 1) := by decide +kernel
theorem dX9_roughness_1 : decode cX9_roughness 1 = .ok (.iload_n 1, 1) := by decide +kernel
theorem dX9_roughness_2 : decode cX9_roughness 2 = .ok (.invokestatic 150, 3) := by decide +kernel
theorem dX9_roughness_5 : decode cX9_roughness 5 = .ok (.invokevirtual 143, 3) := by decide +kernel
theorem dX9_roughness_8 : decode cX9_roughness 8 = .ok (.ifCond .le 5, 3) := by decide +kernel
theorem dX9_roughness_11 : decode cX9_roughness 11 = .ok (.iconst 0, 1) := by decide +kernel
theorem dX9_roughness_12 : decode cX9_roughness 12 = .ok (.ireturn, 1) := by decide +kernel
theorem dX9_roughness_13 : decode cX9_roughness 13 = .ok (.iconst 0, 1) := by decide +kernel
theorem dX9_roughness_14 : decode cX9_roughness 14 = .ok (.istore_n 2, 1) := by decide +kernel
theorem dX9_roughness_15 : decode cX9_roughness 15 = .ok (.iconst 1, 1) := by decide +kernel
theorem dX9_roughness_16 : decode cX9_roughness 16 = .ok (.istore_n 3, 1) := by decide +kernel
theorem dX9_roughness_17 : decode cX9_roughness 17 = .ok (.iload_n 3, 1) := by decide +kernel
theorem dX9_roughness_18 : decode cX9_roughness 18 = .ok (.bipush 7, 2) := by decide +kernel
theorem dX9_roughness_20 : decode cX9_roughness 20 = .ok (.if_icmp .ge 50, 3) := by decide +kernel
theorem dX9_roughness_23 : decode cX9_roughness 23 = .ok (.aload_n 0, 1) := by decide +kernel
theorem dX9_roughness_24 : decode cX9_roughness 24 = .ok (.getfield 7, 3) := by decide +kernel
theorem dX9_roughness_27 : decode cX9_roughness 27 = .ok (.iload_n 1, 1) := by decide +kernel
theorem dX9_roughness_28 : decode cX9_roughness 28 = .ok (.iload_n 3, 1) := by decide +kernel
theorem dX9_roughness_29 : decode cX9_roughness 29 = .ok (.invokestatic 108, 3) := by decide +kernel
theorem dX9_roughness_32 : decode cX9_roughness 32 = .ok (.iaload, 1) := by decide +kernel
theorem dX9_roughness_33 : decode cX9_roughness 33 = .ok (.aload_n 0, 1) := by decide +kernel
theorem dX9_roughness_34 : decode cX9_roughness 34 = .ok (.getfield 7, 3) := by decide +kernel
theorem dX9_roughness_37 : decode cX9_roughness 37 = .ok (.iload_n 1, 1) := by decide +kernel
theorem dX9_roughness_38 : decode cX9_roughness 38 = .ok (.iload_n 3, 1) := by decide +kernel
theorem dX9_roughness_39 : decode cX9_roughness 39 = .ok (.iconst 1, 1) := by decide +kernel
theorem dX9_roughness_40 : decode cX9_roughness 40 = .ok (.isub, 1) := by decide +kernel
theorem dX9_roughness_41 : decode cX9_roughness 41 = .ok (.invokestatic 108, 3) := by decide +kernel
theorem dX9_roughness_44 : decode cX9_roughness 44 = .ok (.iaload, 1) := by decide +kernel
theorem dX9_roughness_45 : decode cX9_roughness 45 = .ok (.isub, 1) := by decide +kernel
theorem dX9_roughness_46 : decode cX9_roughness 46 = .ok (.istore 4, 2) := by decide +kernel
theorem dX9_roughness_48 : decode cX9_roughness 48 = .ok (.iload_n 2, 1) := by decide +kernel
theorem dX9_roughness_49 : decode cX9_roughness 49 = .ok (.iload 4, 2) := by decide +kernel
theorem dX9_roughness_51 : decode cX9_roughness 51 = .ok (.ifCond .ge 9, 3) := by decide +kernel
theorem dX9_roughness_54 : decode cX9_roughness 54 = .ok (.iload 4, 2) := by decide +kernel
theorem dX9_roughness_56 : decode cX9_roughness 56 = .ok (.ineg, 1) := by decide +kernel
theorem dX9_roughness_57 : decode cX9_roughness 57 = .ok (.goto 5, 3) := by decide +kernel
theorem dX9_roughness_60 : decode cX9_roughness 60 = .ok (.iload 4, 2) := by decide +kernel
theorem dX9_roughness_62 : decode cX9_roughness 62 = .ok (.iadd, 1) := by decide +kernel
theorem dX9_roughness_63 : decode cX9_roughness 63 = .ok (.istore_n 2, 1) := by decide +kernel
theorem dX9_roughness_64 : decode cX9_roughness 64 = .ok (.iinc 3 1, 3) := by decide +kernel
theorem dX9_roughness_67 : decode cX9_roughness 67 = .ok (.goto (-50), 3) := by decide +kernel
theorem dX9_roughness_70 : decode cX9_roughness 70 = .ok (.iload_n 2, 1) := by decide +kernel
theorem dX9_roughness_71 : decode cX9_roughness 71 = .ok (.ireturn, 1) := by decide +kernel
set_option maxRecDepth 20000 in
theorem ggX9_flooded_X9_in : GoodIn wsX9_flooded wsX9_in := goodIn_r _ [4] (by decide +kernel) (by decide +kernel)
set_option maxRecDepth 20000 in
theorem gX9_flooded_X9_in : GoodIn wsX9_flooded (va_wsS RX9 75 yX9_in wsX9_in) := goodIn_app (goodIn_of _ (by decide +kernel)) ggX9_flooded_X9_in
set_option maxRecDepth 20000 in
theorem ggX9_flooded_X9_checked : GoodIn wsX9_flooded wsX9_checked := goodIn_r _ [8, 9, 24, 25, 26, 27, 28, 29, 30, 31, 32, 33, 34, 35, 36, 37, 38, 39, 40, 41, 42, 43, 44] (by decide +kernel) (by decide +kernel)
set_option maxRecDepth 20000 in
theorem gX9_flooded_X9_checked : GoodIn wsX9_flooded (wsV RX9 143 RX9 yX9_checked wsX9_checked) := goodIn_app (goodIn_of _ (by decide +kernel)) ggX9_flooded_X9_checked
set_option maxRecDepth 20000 in
theorem ggX9_flooded_X9_wets : GoodIn wsX9_flooded wsX9_wets := goodIn_r _ [13, 14, 15, 16, 17, 18, 3, 19, 20, 21, 22, 23, 24, 25, 26, 27, 28, 29, 30, 31, 32, 33, 34, 35, 36, 37, 38, 39, 40, 41, 42, 43, 44] (by decide +kernel) (by decide +kernel)
set_option maxRecDepth 20000 in
theorem gX9_flooded_X9_wets : GoodIn wsX9_flooded (wsV RX9 140 RX9 yX9_wets wsX9_wets) := goodIn_app (goodIn_of _ (by decide +kernel)) ggX9_flooded_X9_wets
theorem dX9_flooded_0 : decode cX9_flooded 0 = .ok (.aload_n 0, 1) := by decide +kernel
theorem dX9_flooded_1 : decode cX9_flooded 1 = .ok (.iload_n 1, 1) := by decide +kernel
theorem dX9_flooded_2 : decode cX9_flooded 2 = .ok (.iconst 0, 1) := by decide +kernel
theorem dX9_flooded_3 : decode cX9_flooded 3 = .ok (.bipush 20, 2) := by decide +kernel
theorem dX9_flooded_5 : decode cX9_flooded 5 = .ok (.invokestatic 75, 3) := by decide +kernel
theorem dX9_flooded_8 : decode cX9_flooded 8 = .ok (.invokevirtual 143, 3) := by decide +kernel
theorem dX9_flooded_11 : decode cX9_flooded 11 = .ok (.ifCond .le 7, 3) := by decide +kernel
theorem dX9_flooded_14 : decode cX9_flooded 14 = .ok (.iconst 0, 1) := by decide +kernel
theorem dX9_flooded_15 : decode cX9_flooded 15 = .ok (.goto 8, 3) := by decide +kernel
theorem dX9_flooded_18 : decode cX9_flooded 18 = .ok (.aload_n 0, 1) := by decide +kernel
theorem dX9_flooded_19 : decode cX9_flooded 19 = .ok (.iload_n 1, 1) := by decide +kernel
theorem dX9_flooded_20 : decode cX9_flooded 20 = .ok (.invokevirtual 140, 3) := by decide +kernel
theorem dX9_flooded_23 : decode cX9_flooded 23 = .ok (.ireturn, 1) := by decide +kernel
set_option maxRecDepth 20000 in
theorem ggX9_floodedByRounds_X9_flooded : GoodIn wsX9_floodedByRounds wsX9_flooded := goodIn_r _ [5, 6, 7, 4, 8, 9, 10, 11, 12, 13, 14, 15, 16, 17, 18, 19, 20, 21, 22, 23, 24, 25, 26, 27, 28, 29, 30, 31, 32, 33, 34, 35, 36, 37, 38, 39, 40, 41, 42, 43, 44, 45, 46, 47, 48] (by decide +kernel) (by decide +kernel)
set_option maxRecDepth 20000 in
theorem gX9_floodedByRounds_X9_flooded : GoodIn wsX9_floodedByRounds (wsV RX9 160 RX9 yX9_flooded wsX9_flooded) := goodIn_app (goodIn_of _ (by decide +kernel)) ggX9_floodedByRounds_X9_flooded
theorem dX9_floodedByRounds_0 : decode cX9_floodedByRounds 0 = .ok (.aload_n 0, 1) := by decide +kernel
theorem dX9_floodedByRounds_1 : decode cX9_floodedByRounds 1 = .ok (.iload_n 1, 1) := by decide +kernel
theorem dX9_floodedByRounds_2 : decode cX9_floodedByRounds 2 = .ok (.invokevirtual 160, 3) := by decide +kernel
theorem dX9_floodedByRounds_5 : decode cX9_floodedByRounds 5 = .ok (.ireturn, 1) := by decide +kernel
set_option maxRecDepth 20000 in
theorem ggX9_isFlooded_X9_isCell : GoodIn wsX9_isFlooded wsX9_isCell := goodIn_r _ [6, 7, 8, 5, 9] (by decide +kernel) (by decide +kernel)
set_option maxRecDepth 20000 in
theorem gX9_isFlooded_X9_isCell : GoodIn wsX9_isFlooded (va_wsS RX9 98 yX9_isCell wsX9_isCell) := goodIn_app (goodIn_of _ (by decide +kernel)) ggX9_isFlooded_X9_isCell
set_option maxRecDepth 20000 in
theorem ggX9_isFlooded_X9_in : GoodIn wsX9_isFlooded wsX9_in := goodIn_r _ [9] (by decide +kernel) (by decide +kernel)
set_option maxRecDepth 20000 in
theorem gX9_isFlooded_X9_in : GoodIn wsX9_isFlooded (va_wsS RX9 75 yX9_in wsX9_in) := goodIn_app (goodIn_of _ (by decide +kernel)) ggX9_isFlooded_X9_in
set_option maxRecDepth 20000 in
theorem ggX9_isFlooded_X9_wets : GoodIn wsX9_isFlooded wsX9_wets := goodIn_r _ [13, 2, 14, 15, 16, 17, 5, 18, 19, 20, 21, 22, 26, 27, 28, 29, 30, 31, 32, 33, 34, 35, 36, 37, 38, 39, 40, 41, 42, 43, 44, 45, 46] (by decide +kernel) (by decide +kernel)
set_option maxRecDepth 20000 in
theorem gX9_isFlooded_X9_wets : GoodIn wsX9_isFlooded (wsV RX9 140 RX9 yX9_wets wsX9_wets) := goodIn_app (goodIn_of _ (by decide +kernel)) ggX9_isFlooded_X9_wets
set_option maxRecDepth 20000 in
theorem ggX9_isFlooded_X9_at : GoodIn wsX9_isFlooded wsX9_at := goodIn_r _ [25] (by decide +kernel) (by decide +kernel)
set_option maxRecDepth 20000 in
theorem gX9_isFlooded_X9_at : GoodIn wsX9_isFlooded (va_wsS RX9 108 yX9_at wsX9_at) := goodIn_app (goodIn_of _ (by decide +kernel)) ggX9_isFlooded_X9_at
theorem dX9_isFlooded_0 : decode cX9_isFlooded 0 = .ok (.aload_n 0, 1) := by decide +kernel
theorem dX9_isFlooded_1 : decode cX9_isFlooded 1 = .ok (.iload_n 1, 1) := by decide +kernel
theorem dX9_isFlooded_2 : decode cX9_isFlooded 2 = .ok (.iload_n 2, 1) := by decide +kernel
theorem dX9_isFlooded_3 : decode cX9_isFlooded 3 = .ok (.invokestatic 98, 3) := by decide +kernel
theorem dX9_isFlooded_6 : decode cX9_isFlooded 6 = .ok (.ifCond .ne 7, 3) := by decide +kernel
theorem dX9_isFlooded_9 : decode cX9_isFlooded 9 = .ok (.iconst 1, 1) := by decide +kernel
theorem dX9_isFlooded_10 : decode cX9_isFlooded 10 = .ok (.goto 18, 3) := by decide +kernel
theorem dX9_isFlooded_13 : decode cX9_isFlooded 13 = .ok (.iload_n 3, 1) := by decide +kernel
theorem dX9_isFlooded_14 : decode cX9_isFlooded 14 = .ok (.iconst 0, 1) := by decide +kernel
theorem dX9_isFlooded_15 : decode cX9_isFlooded 15 = .ok (.bipush 20, 2) := by decide +kernel
theorem dX9_isFlooded_17 : decode cX9_isFlooded 17 = .ok (.invokestatic 75, 3) := by decide +kernel
theorem dX9_isFlooded_20 : decode cX9_isFlooded 20 = .ok (.ifCond .ne 7, 3) := by decide +kernel
theorem dX9_isFlooded_23 : decode cX9_isFlooded 23 = .ok (.iconst 2, 1) := by decide +kernel
theorem dX9_isFlooded_24 : decode cX9_isFlooded 24 = .ok (.goto 4, 3) := by decide +kernel
theorem dX9_isFlooded_27 : decode cX9_isFlooded 27 = .ok (.iconst 0, 1) := by decide +kernel
theorem dX9_isFlooded_28 : decode cX9_isFlooded 28 = .ok (.putfield 53, 3) := by decide +kernel
theorem dX9_isFlooded_31 : decode cX9_isFlooded 31 = .ok (.aload_n 0, 1) := by decide +kernel
theorem dX9_isFlooded_32 : decode cX9_isFlooded 32 = .ok (.getfield 53, 3) := by decide +kernel
theorem dX9_isFlooded_35 : decode cX9_isFlooded 35 = .ok (.ifCond .ne 28, 3) := by decide +kernel
theorem dX9_isFlooded_38 : decode cX9_isFlooded 38 = .ok (.aload_n 0, 1) := by decide +kernel
theorem dX9_isFlooded_39 : decode cX9_isFlooded 39 = .ok (.iload_n 3, 1) := by decide +kernel
theorem dX9_isFlooded_40 : decode cX9_isFlooded 40 = .ok (.invokevirtual 140, 3) := by decide +kernel
theorem dX9_isFlooded_43 : decode cX9_isFlooded 43 = .ok (.ifCond .le 20, 3) := by decide +kernel
theorem dX9_isFlooded_46 : decode cX9_isFlooded 46 = .ok (.aload_n 0, 1) := by decide +kernel
theorem dX9_isFlooded_47 : decode cX9_isFlooded 47 = .ok (.getfield 41, 3) := by decide +kernel
theorem dX9_isFlooded_50 : decode cX9_isFlooded 50 = .ok (.iload_n 1, 1) := by decide +kernel
theorem dX9_isFlooded_51 : decode cX9_isFlooded 51 = .ok (.iload_n 2, 1) := by decide +kernel
theorem dX9_isFlooded_52 : decode cX9_isFlooded 52 = .ok (.invokestatic 108, 3) := by decide +kernel
theorem dX9_isFlooded_55 : decode cX9_isFlooded 55 = .ok (.baload, 1) := by decide +kernel
theorem dX9_isFlooded_56 : decode cX9_isFlooded 56 = .ok (.ifCond .eq 7, 3) := by decide +kernel
theorem dX9_isFlooded_59 : decode cX9_isFlooded 59 = .ok (.iconst 1, 1) := by decide +kernel
theorem dX9_isFlooded_60 : decode cX9_isFlooded 60 = .ok (.goto 4, 3) := by decide +kernel
theorem dX9_isFlooded_63 : decode cX9_isFlooded 63 = .ok (.iconst 0, 1) := by decide +kernel
theorem dX9_isFlooded_64 : decode cX9_isFlooded 64 = .ok (.ireturn, 1) := by decide +kernel
theorem dX9_sandOf_0 : decode cX9_sandOf 0 = .ok (.iconst 0, 1) := by decide +kernel
theorem dX9_sandOf_1 : decode cX9_sandOf 1 = .ok (.istore_n 1, 1) := by decide +kernel
theorem dX9_sandOf_2 : decode cX9_sandOf 2 = .ok (.iconst 0, 1) := by decide +kernel
theorem dX9_sandOf_3 : decode cX9_sandOf 3 = .ok (.istore_n 2, 1) := by decide +kernel
theorem dX9_sandOf_4 : decode cX9_sandOf 4 = .ok (.iload_n 2, 1) := by decide +kernel
theorem dX9_sandOf_5 : decode cX9_sandOf 5 = .ok (.bipush 42, 2) := by decide +kernel
theorem dX9_sandOf_7 : decode cX9_sandOf 7 = .ok (.if_icmp .ge 18, 3) := by decide +kernel
theorem dX9_sandOf_10 : decode cX9_sandOf 10 = .ok (.iload_n 1, 1) := by decide +kernel
theorem dX9_sandOf_11 : decode cX9_sandOf 11 = .ok (.aload_n 0, 1) := by decide +kernel
theorem dX9_sandOf_12 : decode cX9_sandOf 12 = .ok (.getfield 7, 3) := by decide +kernel
theorem dX9_sandOf_15 : decode cX9_sandOf 15 = .ok (.iload_n 2, 1) := by decide +kernel
theorem dX9_sandOf_16 : decode cX9_sandOf 16 = .ok (.iaload, 1) := by decide +kernel
theorem dX9_sandOf_17 : decode cX9_sandOf 17 = .ok (.iadd, 1) := by decide +kernel
theorem dX9_sandOf_18 : decode cX9_sandOf 18 = .ok (.istore_n 1, 1) := by decide +kernel
theorem dX9_sandOf_19 : decode cX9_sandOf 19 = .ok (.iinc 2 1, 3) := by decide +kernel
theorem dX9_sandOf_22 : decode cX9_sandOf 22 = .ok (.goto (-18), 3) := by decide +kernel
theorem dX9_sandOf_25 : decode cX9_sandOf 25 = .ok (.iload_n 1, 1) := by decide +kernel
theorem dX9_sandOf_26 : decode cX9_sandOf 26 = .ok (.ireturn, 1) := by decide +kernel
set_option maxRecDepth 20000 in
theorem ggX9_sand_X9_sandOf : GoodIn wsX9_sand wsX9_sandOf := goodIn_r _ [5, 6, 12, 13, 14, 15, 16, 17, 18, 19, 20, 21, 22, 23, 24, 25, 26, 27, 28, 29, 30, 31, 32] (by decide +kernel) (by decide +kernel)
set_option maxRecDepth 20000 in
theorem gX9_sand_X9_sandOf : GoodIn wsX9_sand (wsV RX9 163 RX9 yX9_sandOf wsX9_sandOf) := goodIn_app (goodIn_of _ (by decide +kernel)) ggX9_sand_X9_sandOf
set_option maxRecDepth 20000 in
theorem ggX9_sand_X9_plain : GoodIn wsX9_sand wsX9_plain := goodIn_r _ [10, 11, 12, 13, 14, 15, 16, 17, 18, 19, 20, 21, 22, 23, 24, 25, 26, 27, 28, 29, 30, 31, 32] (by decide +kernel) (by decide +kernel)
set_option maxRecDepth 20000 in
theorem gX9_sand_X9_plain : GoodIn wsX9_sand (wsV RX9 157 RX9 yX9_plain wsX9_plain) := goodIn_app (goodIn_of _ (by decide +kernel)) ggX9_sand_X9_plain
theorem dX9_sand_0 : decode cX9_sand 0 = .ok (.aload_n 0, 1) := by decide +kernel
theorem dX9_sand_1 : decode cX9_sand 1 = .ok (.aload_n 0, 1) := by decide +kernel
theorem dX9_sand_2 : decode cX9_sand 2 = .ok (.invokevirtual 163, 3) := by decide +kernel
theorem dX9_sand_5 : decode cX9_sand 5 = .ok (.invokevirtual 157, 3) := by decide +kernel
theorem dX9_sand_8 : decode cX9_sand 8 = .ok (.ireturn, 1) := by decide +kernel
set_option maxRecDepth 20000 in
theorem ggX9_sea_X9_plain : GoodIn wsX9_sea wsX9_plain := goodIn_r _ [6, 7, 8, 9, 10, 11, 12, 13, 14, 15, 16, 17, 18, 19, 20, 21, 22, 23, 24, 25, 26, 27, 28] (by decide +kernel) (by decide +kernel)
set_option maxRecDepth 20000 in
theorem gX9_sea_X9_plain : GoodIn wsX9_sea (wsV RX9 157 RX9 yX9_plain wsX9_plain) := goodIn_app (goodIn_of _ (by decide +kernel)) ggX9_sea_X9_plain
theorem dX9_sea_0 : decode cX9_sea 0 = .ok (.aload_n 0, 1) := by decide +kernel
theorem dX9_sea_1 : decode cX9_sea 1 = .ok (.aload_n 0, 1) := by decide +kernel
theorem dX9_sea_2 : decode cX9_sea 2 = .ok (.getfield 57, 3) := by decide +kernel
theorem dX9_sea_5 : decode cX9_sea 5 = .ok (.invokevirtual 157, 3) := by decide +kernel
theorem dX9_sea_8 : decode cX9_sea 8 = .ok (.ireturn, 1) := by decide +kernel
set_option maxRecDepth 20000 in
theorem ggX9_brought_X9_plain : GoodIn wsX9_brought wsX9_plain := goodIn_r _ [6, 7, 8, 9, 10, 11, 12, 13, 14, 15, 16, 17, 18, 19, 20, 21, 22, 23, 24, 25, 26, 27, 28] (by decide +kernel) (by decide +kernel)
set_option maxRecDepth 20000 in
theorem gX9_brought_X9_plain : GoodIn wsX9_brought (wsV RX9 157 RX9 yX9_plain wsX9_plain) := goodIn_app (goodIn_of _ (by decide +kernel)) ggX9_brought_X9_plain
theorem dX9_brought_0 : decode cX9_brought 0 = .ok (.aload_n 0, 1) := by decide +kernel
theorem dX9_brought_1 : decode cX9_brought 1 = .ok (.aload_n 0, 1) := by decide +kernel
theorem dX9_brought_2 : decode cX9_brought 2 = .ok (.getfield 60, 3) := by decide +kernel
theorem dX9_brought_5 : decode cX9_brought 5 = .ok (.invokevirtual 157, 3) := by decide +kernel
theorem dX9_brought_8 : decode cX9_brought 8 = .ok (.ireturn, 1) := by decide +kernel
set_option maxRecDepth 20000 in
theorem ggX9_meanHeight_X9_sandOf : GoodIn wsX9_meanHeight wsX9_sandOf := goodIn_r _ [7, 8, 9, 10, 11, 12, 13, 14, 15, 16, 17, 18, 19, 20, 21, 22, 23, 24, 25, 26, 27, 28, 29] (by decide +kernel) (by decide +kernel)
set_option maxRecDepth 20000 in
theorem gX9_meanHeight_X9_sandOf : GoodIn wsX9_meanHeight (wsV RX9 163 RX9 yX9_sandOf wsX9_sandOf) := goodIn_app (goodIn_of _ (by decide +kernel)) ggX9_meanHeight_X9_sandOf
theorem dX9_meanHeight_0 : decode cX9_meanHeight 0 = .ok (.aload_n 0, 1) := by decide +kernel
theorem dX9_meanHeight_1 : decode cX9_meanHeight 1 = .ok (.iconst 0, 1) := by decide +kernel
theorem dX9_meanHeight_2 : decode cX9_meanHeight 2 = .ok (.putfield 53, 3) := by decide +kernel
theorem dX9_meanHeight_5 : decode cX9_meanHeight 5 = .ok (.aload_n 0, 1) := by decide +kernel
theorem dX9_meanHeight_6 : decode cX9_meanHeight 6 = .ok (.invokevirtual 163, 3) := by decide +kernel
theorem dX9_meanHeight_9 : decode cX9_meanHeight 9 = .ok (.i2f, 1) := by decide +kernel
theorem dX9_meanHeight_10 : decode cX9_meanHeight 10 = .ok (.ldc 166, 2) := by decide +kernel
theorem dX9_meanHeight_12 : decode cX9_meanHeight 12 = .ok (.fdiv, 1) := by decide +kernel
theorem dX9_meanHeight_13 : decode cX9_meanHeight 13 = .ok (.freturn, 1) := by decide +kernel
