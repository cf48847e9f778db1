theorem dX0_init_0 : decode cX0_init 0 = .ok (.aload_n 0, 1) := by decide +kernel
theorem dX0_init_1 : decode cX0_init 1 = .ok (.invokespecial 1, 3) := by decide +kernel
theorem dX0_init_4 : decode cX0_init 4 = .ok (.return_, 1) := by decide +kernel
theorem dX0_catches_0 : decode cX0_catches 0 = .ok (.iconst 2, 1) := by decide +kernel
theorem dX0_catches_1 : decode cX0_catches 1 = .ok (.ireturn, 1) := by decide +kernel
theorem dX0_owes_0 : decode cX0_owes 0 = .ok (.iload_n 1, 1) := by decide +kernel
theorem dX0_owes_1 : decode cX0_owes 1 = .ok (.bipush 8, 2) := by decide +kernel
theorem dX0_owes_3 : decode cX0_owes 3 = .ok (.if_icmp .lt 7, 3) := by decide +kernel
theorem dX0_owes_6 : decode cX0_owes 6 = .ok (.iconst 0, 1) := by decide +kernel
theorem dX0_owes_7 : decode cX0_owes 7 = .ok (.goto 7, 3) := by decide +kernel
theorem dX0_owes_10 : decode cX0_owes 10 = .ok (.bipush 8, 2) := by decide +kernel
theorem dX0_owes_12 : decode cX0_owes 12 = .ok (.iload_n 1, 1) := by decide +kernel
theorem dX0_owes_13 : decode cX0_owes 13 = .ok (.isub, 1) := by decide +kernel
theorem dX0_owes_14 : decode cX0_owes 14 = .ok (.ireturn, 1) := by decide +kernel
theorem dX0_costs_0 : decode cX0_costs 0 = .ok (.iconst 1, 1) := by decide +kernel
theorem dX0_costs_1 : decode cX0_costs 1 = .ok (.ireturn, 1) := by decide +kernel
theorem dX0_fail_0 : decode cX0_fail 0 = .ok (.return_, 1) := by decide +kernel
set_option maxRecDepth 20000 in
theorem ggX1_init_X8_init : GoodIn wsX1_init wsX8_init := goodIn_r _ [3, 4, 5, 6] (by decide +kernel) (by decide +kernel)
set_option maxRecDepth 20000 in
theorem gX1_init_X8_init_n1 : GoodIn wsX1_init (wsX8_init) := ggX1_init_X8_init
theorem dX1_init_0 : decode cX1_init 0 = .ok (.aload_n 0, 1) := by decide +kernel
theorem dX1_init_1 : decode cX1_init 1 = .ok (.invokespecial 1, 3) := by decide +kernel
theorem dX1_init_4 : decode cX1_init 4 = .ok (.return_, 1) := by decide +kernel
set_option maxRecDepth 20000 in
theorem ggX1_catches_X8_catches : GoodIn wsX1_catches wsX8_catches := goodIn_r _ [6] (by decide +kernel) (by decide +kernel)
set_option maxRecDepth 20000 in
theorem gX1_catches_X8_catches_s7 : GoodIn wsX1_catches (va_wsSU RX1 7 yX8_catches wsX8_catches) := goodIn_app (goodIn_of _ (by decide +kernel)) ggX1_catches_X8_catches
theorem dX1_catches_0 : decode cX1_catches 0 = .ok (.aload_n 0, 1) := by decide +kernel
theorem dX1_catches_1 : decode cX1_catches 1 = .ok (.iload_n 1, 1) := by decide +kernel
theorem dX1_catches_2 : decode cX1_catches 2 = .ok (.iload_n 2, 1) := by decide +kernel
theorem dX1_catches_3 : decode cX1_catches 3 = .ok (.iload_n 3, 1) := by decide +kernel
theorem dX1_catches_4 : decode cX1_catches 4 = .ok (.invokespecial 7, 3) := by decide +kernel
theorem dX1_catches_7 : decode cX1_catches 7 = .ok (.iload_n 1, 1) := by decide +kernel
theorem dX1_catches_8 : decode cX1_catches 8 = .ok (.iconst 3, 1) := by decide +kernel
theorem dX1_catches_9 : decode cX1_catches 9 = .ok (.idiv, 1) := by decide +kernel
theorem dX1_catches_10 : decode cX1_catches 10 = .ok (.iadd, 1) := by decide +kernel
theorem dX1_catches_11 : decode cX1_catches 11 = .ok (.ireturn, 1) := by decide +kernel
theorem dX1_owes_0 : decode cX1_owes 0 = .ok (.bipush 11, 2) := by decide +kernel
theorem dX1_owes_2 : decode cX1_owes 2 = .ok (.ireturn, 1) := by decide +kernel
theorem dX1_frightens_0 : decode cX1_frightens 0 = .ok (.iconst 1, 1) := by decide +kernel
theorem dX1_frightens_1 : decode cX1_frightens 1 = .ok (.ireturn, 1) := by decide +kernel
set_option maxRecDepth 20000 in
theorem ggX1_costs_X8_costs : GoodIn wsX1_costs wsX8_costs := goodIn_r _ [6] (by decide +kernel) (by decide +kernel)
set_option maxRecDepth 20000 in
theorem gX1_costs_X8_costs_s11 : GoodIn wsX1_costs (va_wsSU RX1 11 yX8_costs wsX8_costs) := goodIn_app (goodIn_of _ (by decide +kernel)) ggX1_costs_X8_costs
theorem dX1_costs_0 : decode cX1_costs 0 = .ok (.aload_n 0, 1) := by decide +kernel
theorem dX1_costs_1 : decode cX1_costs 1 = .ok (.iload_n 1, 1) := by decide +kernel
theorem dX1_costs_2 : decode cX1_costs 2 = .ok (.invokespecial 11, 3) := by decide +kernel
theorem dX1_costs_5 : decode cX1_costs 5 = .ok (.iload_n 1, 1) := by decide +kernel
theorem dX1_costs_6 : decode cX1_costs 6 = .ok (.iadd, 1) := by decide +kernel
theorem dX1_costs_7 : decode cX1_costs 7 = .ok (.ireturn, 1) := by decide +kernel
theorem dX1_fail_0 : decode cX1_fail 0 = .ok (.iload_n 1, 1) := by decide +kernel
theorem dX1_fail_1 : decode cX1_fail 1 = .ok (.ifCond .eq 13, 3) := by decide +kernel
theorem dX1_fail_4 : decode cX1_fail 4 = .ok (.new 15, 3) := by decide +kernel
theorem dX1_fail_7 : decode cX1_fail 7 = .ok (.dup, 1) := by decide +kernel
theorem dX1_fail_8 : decode cX1_fail 8 = .ok (.ldc 17, 2) := by decide +kernel
theorem dX1_fail_10 : decode cX1_fail 10 = .ok (.invokespecial 19, 3) := by decide +kernel
theorem dX1_fail_13 : decode cX1_fail 13 = .ok (.athrow, 1) := by decide +kernel
theorem dX1_fail_14 : decode cX1_fail 14 = .ok (.return_, 1) := by decide +kernel
set_option maxRecDepth 20000 in
theorem ggX2_init_X6_init : GoodIn wsX2_init wsX6_init := goodIn_r _ [3, 4, 5, 6, 7, 8, 9, 10, 11, 12] (by decide +kernel) (by decide +kernel)
set_option maxRecDepth 20000 in
theorem gX2_init_X6_init_n1 : GoodIn wsX2_init (wsX6_init) := ggX2_init_X6_init
theorem dX2_init_0 : decode cX2_init 0 = .ok (.aload_n 0, 1) := by decide +kernel
theorem dX2_init_1 : decode cX2_init 1 = .ok (.invokespecial 1, 3) := by decide +kernel
theorem dX2_init_4 : decode cX2_init 4 = .ok (.return_, 1) := by decide +kernel
theorem dX2_catches_0 : decode cX2_catches 0 = .ok (.iconst 1, 1) := by decide +kernel
theorem dX2_catches_1 : decode cX2_catches 1 = .ok (.ireturn, 1) := by decide +kernel
theorem dX2_owes_0 : decode cX2_owes 0 = .ok (.iconst 0, 1) := by decide +kernel
theorem dX2_owes_1 : decode cX2_owes 1 = .ok (.ireturn, 1) := by decide +kernel
set_option maxRecDepth 20000 in
theorem ggX3_init_X8_init : GoodIn wsX3_init wsX8_init := goodIn_r _ [3, 4, 5, 6] (by decide +kernel) (by decide +kernel)
set_option maxRecDepth 20000 in
theorem gX3_init_X8_init_n1 : GoodIn wsX3_init (wsX8_init) := ggX3_init_X8_init
theorem dX3_init_0 : decode cX3_init 0 = .ok (.aload_n 0, 1) := by decide +kernel
theorem dX3_init_1 : decode cX3_init 1 = .ok (.invokespecial 1, 3) := by decide +kernel
theorem dX3_init_4 : decode cX3_init 4 = .ok (.return_, 1) := by decide +kernel
theorem dX3_catches_0 : decode cX3_catches 0 = .ok (.iload_n 2, 1) := by decide +kernel
theorem dX3_catches_1 : decode cX3_catches 1 = .ok (.iconst 2, 1) := by decide +kernel
theorem dX3_catches_2 : decode cX3_catches 2 = .ok (.idiv, 1) := by decide +kernel
theorem dX3_catches_3 : decode cX3_catches 3 = .ok (.ireturn, 1) := by decide +kernel
theorem dX3_owes_0 : decode cX3_owes 0 = .ok (.bipush 8, 2) := by decide +kernel
theorem dX3_owes_2 : decode cX3_owes 2 = .ok (.iload_n 2, 1) := by decide +kernel
theorem dX3_owes_3 : decode cX3_owes 3 = .ok (.bipush 10, 2) := by decide +kernel
theorem dX3_owes_5 : decode cX3_owes 5 = .ok (.idiv, 1) := by decide +kernel
theorem dX3_owes_6 : decode cX3_owes 6 = .ok (.iadd, 1) := by decide +kernel
theorem dX3_owes_7 : decode cX3_owes 7 = .ok (.ireturn, 1) := by decide +kernel
set_option maxRecDepth 20000 in
theorem ggX3_costs_X8_costs : GoodIn wsX3_costs wsX8_costs := goodIn_r _ [6] (by decide +kernel) (by decide +kernel)
set_option maxRecDepth 20000 in
theorem gX3_costs_X8_costs_s7 : GoodIn wsX3_costs (va_wsSU RX3 7 yX8_costs wsX8_costs) := goodIn_app (goodIn_of _ (by decide +kernel)) ggX3_costs_X8_costs
theorem dX3_costs_0 : decode cX3_costs 0 = .ok (.aload_n 0, 1) := by decide +kernel
theorem dX3_costs_1 : decode cX3_costs 1 = .ok (.iload_n 1, 1) := by decide +kernel
theorem dX3_costs_2 : decode cX3_costs 2 = .ok (.invokespecial 7, 3) := by decide +kernel
theorem dX3_costs_5 : decode cX3_costs 5 = .ok (.iconst 2, 1) := by decide +kernel
theorem dX3_costs_6 : decode cX3_costs 6 = .ok (.iadd, 1) := by decide +kernel
theorem dX3_costs_7 : decode cX3_costs 7 = .ok (.ireturn, 1) := by decide +kernel
set_option maxRecDepth 20000 in
theorem ggX4_init_X8_init : GoodIn wsX4_init wsX8_init := goodIn_r _ [40, 41, 2, 3] (by decide +kernel) (by decide +kernel)
set_option maxRecDepth 20000 in
theorem gX4_init_X8_init_n11 : GoodIn wsX4_init (wsX8_init) := ggX4_init_X8_init
set_option maxRecDepth 20000 in
theorem ggX4_init_X1_init : GoodIn wsX4_init wsX1_init := goodIn_r _ [43, 39, 6, 40, 41, 2, 3] (by decide +kernel) (by decide +kernel)
set_option maxRecDepth 20000 in
theorem gX4_init_X1_init_n14 : GoodIn wsX4_init (wsX1_init) := ggX4_init_X1_init
set_option maxRecDepth 20000 in
theorem ggX4_init_X0_init : GoodIn wsX4_init wsX0_init := goodIn_r _ [45, 39, 6, 40, 41, 2, 3] (by decide +kernel) (by decide +kernel)
set_option maxRecDepth 20000 in
theorem gX4_init_X0_init_n17 : GoodIn wsX4_init (wsX0_init) := ggX4_init_X0_init
set_option maxRecDepth 20000 in
theorem ggX4_init_X3_init : GoodIn wsX4_init wsX3_init := goodIn_r _ [47, 39, 6, 40, 41, 2, 3] (by decide +kernel) (by decide +kernel)
set_option maxRecDepth 20000 in
theorem gX4_init_X3_init_n20 : GoodIn wsX4_init (wsX3_init) := ggX4_init_X3_init
set_option maxRecDepth 20000 in
theorem ggX4_init_X6_init : GoodIn wsX4_init wsX6_init := goodIn_r _ [49, 44, 12, 45, 39, 6, 40, 41, 2, 3] (by decide +kernel) (by decide +kernel)
set_option maxRecDepth 20000 in
theorem gX4_init_X6_init_n23 : GoodIn wsX4_init (wsX6_init) := ggX4_init_X6_init
set_option maxRecDepth 20000 in
theorem ggX4_init_X10_init : GoodIn wsX4_init wsX10_init := goodIn_r _ [51, 42, 9, 43, 39, 6, 40, 41, 2, 3] (by decide +kernel) (by decide +kernel)
set_option maxRecDepth 20000 in
theorem gX4_init_X10_init_n26 : GoodIn wsX4_init (wsX10_init) := ggX4_init_X10_init
set_option maxRecDepth 20000 in
theorem ggX4_init_X5_init : GoodIn wsX4_init wsX5_init := goodIn_r _ [53, 46, 15, 47, 39, 6, 40, 41, 2, 3] (by decide +kernel) (by decide +kernel)
set_option maxRecDepth 20000 in
theorem gX4_init_X5_init_n29 : GoodIn wsX4_init (wsX5_init) := ggX4_init_X5_init
set_option maxRecDepth 20000 in
theorem ggX4_init_X2_init : GoodIn wsX4_init wsX2_init := goodIn_r _ [55, 48, 18, 49, 44, 12, 45, 39, 6, 40, 41, 2, 3] (by decide +kernel) (by decide +kernel)
set_option maxRecDepth 20000 in
theorem gX4_init_X2_init_n32 : GoodIn wsX4_init (wsX2_init) := ggX4_init_X2_init
theorem dX4_init_0 : decode cX4_init 0 = .ok (.aload_n 0, 1) := by decide +kernel
theorem dX4_init_1 : decode cX4_init 1 = .ok (.invokespecial 3, 3) := by decide +kernel
theorem dX4_init_4 : decode cX4_init 4 = .ok (.aload_n 0, 1) := by decide +kernel
theorem dX4_init_5 : decode cX4_init 5 = .ok (.bipush 8, 2) := by decide +kernel
theorem dX4_init_7 : decode cX4_init 7 = .ok (.anewarray 9, 3) := by decide +kernel
theorem dX4_init_10 : decode cX4_init 10 = .ok (.dup, 1) := by decide +kernel
theorem dX4_init_11 : decode cX4_init 11 = .ok (.iconst 0, 1) := by decide +kernel
theorem dX4_init_12 : decode cX4_init 12 = .ok (.new 9, 3) := by decide +kernel
theorem dX4_init_15 : decode cX4_init 15 = .ok (.dup, 1) := by decide +kernel
theorem dX4_init_16 : decode cX4_init 16 = .ok (.invokespecial 11, 3) := by decide +kernel
theorem dX4_init_19 : decode cX4_init 19 = .ok (.aastore, 1) := by decide +kernel
theorem dX4_init_20 : decode cX4_init 20 = .ok (.dup, 1) := by decide +kernel
theorem dX4_init_21 : decode cX4_init 21 = .ok (.iconst 1, 1) := by decide +kernel
theorem dX4_init_22 : decode cX4_init 22 = .ok (.new 12, 3) := by decide +kernel
theorem dX4_init_25 : decode cX4_init 25 = .ok (.dup, 1) := by decide +kernel
theorem dX4_init_26 : decode cX4_init 26 = .ok (.invokespecial 14, 3) := by decide +kernel
theorem dX4_init_29 : decode cX4_init 29 = .ok (.aastore, 1) := by decide +kernel
theorem dX4_init_30 : decode cX4_init 30 = .ok (.dup, 1) := by decide +kernel
theorem dX4_init_31 : decode cX4_init 31 = .ok (.iconst 2, 1) := by decide +kernel
theorem dX4_init_32 : decode cX4_init 32 = .ok (.new 15, 3) := by decide +kernel
theorem dX4_init_35 : decode cX4_init 35 = .ok (.dup, 1) := by decide +kernel
theorem dX4_init_36 : decode cX4_init 36 = .ok (.invokespecial 17, 3) := by decide +kernel
theorem dX4_init_39 : decode cX4_init 39 = .ok (.aastore, 1) := by decide +kernel
theorem dX4_init_40 : decode cX4_init 40 = .ok (.dup, 1) := by decide +kernel
theorem dX4_init_41 : decode cX4_init 41 = .ok (.iconst 3, 1) := by decide +kernel
theorem dX4_init_42 : decode cX4_init 42 = .ok (.new 18, 3) := by decide +kernel
theorem dX4_init_45 : decode cX4_init 45 = .ok (.dup, 1) := by decide +kernel
theorem dX4_init_46 : decode cX4_init 46 = .ok (.invokespecial 20, 3) := by decide +kernel
theorem dX4_init_49 : decode cX4_init 49 = .ok (.aastore, 1) := by decide +kernel
theorem dX4_init_50 : decode cX4_init 50 = .ok (.dup, 1) := by decide +kernel
theorem dX4_init_51 : decode cX4_init 51 = .ok (.iconst 4, 1) := by decide +kernel
theorem dX4_init_52 : decode cX4_init 52 = .ok (.new 21, 3) := by decide +kernel
theorem dX4_init_55 : decode cX4_init 55 = .ok (.dup, 1) := by decide +kernel
theorem dX4_init_56 : decode cX4_init 56 = .ok (.invokespecial 23, 3) := by decide +kernel
theorem dX4_init_59 : decode cX4_init 59 = .ok (.aastore, 1) := by decide +kernel
theorem dX4_init_60 : decode cX4_init 60 = .ok (.dup, 1) := by decide +kernel
theorem dX4_init_61 : decode cX4_init 61 = .ok (.iconst 5, 1) := by decide +kernel
theorem dX4_init_62 : decode cX4_init 62 = .ok (.new 24, 3) := by decide +kernel
theorem dX4_init_65 : decode cX4_init 65 = .ok (.dup, 1) := by decide +kernel
theorem dX4_init_66 : decode cX4_init 66 = .ok (.invokespecial 26, 3) := by decide +kernel
theorem dX4_init_69 : decode cX4_init 69 = .ok (.aastore, 1) := by decide +kernel
theorem dX4_init_70 : decode cX4_init 70 = .ok (.dup, 1) := by decide +kernel
theorem dX4_init_71 : decode cX4_init 71 = .ok (.bipush 6, 2) := by decide +kernel
theorem dX4_init_73 : decode cX4_init 73 = .ok (.new 27, 3) := by decide +kernel
theorem dX4_init_76 : decode cX4_init 76 = .ok (.dup, 1) := by decide +kernel
theorem dX4_init_77 : decode cX4_init 77 = .ok (.invokespecial 29, 3) := by decide +kernel
theorem dX4_init_80 : decode cX4_init 80 = .ok (.aastore, 1) := by decide +kernel
theorem dX4_init_81 : decode cX4_init 81 = .ok (.dup, 1) := by decide +kernel
theorem dX4_init_82 : decode cX4_init 82 = .ok (.bipush 7, 2) := by decide +kernel
theorem dX4_init_84 : decode cX4_init 84 = .ok (.new 30, 3) := by decide +kernel
theorem dX4_init_87 : decode cX4_init 87 = .ok (.dup, 1) := by decide +kernel
theorem dX4_init_88 : decode cX4_init 88 = .ok (.invokespecial 32, 3) := by decide +kernel
theorem dX4_init_91 : decode cX4_init 91 = .ok (.aastore, 1) := by decide +kernel
theorem dX4_init_92 : decode cX4_init 92 = .ok (.putfield 33, 3) := by decide +kernel
theorem dX4_init_95 : decode cX4_init 95 = .ok (.aload_n 0, 1) := by decide +kernel
theorem dX4_init_96 : decode cX4_init 96 = .ok (.bipush 7, 2) := by decide +kernel
theorem dX4_init_98 : decode cX4_init 98 = .ok (.newarray .int, 2) := by decide +kernel
theorem dX4_init_100 : decode cX4_init 100 = .ok (.putfield 39, 3) := by decide +kernel
theorem dX4_init_103 : decode cX4_init 103 = .ok (.aload_n 0, 1) := by decide +kernel
theorem dX4_init_104 : decode cX4_init 104 = .ok (.bipush 7, 2) := by decide +kernel
theorem dX4_init_106 : decode cX4_init 106 = .ok (.newarray .int, 2) := by decide +kernel
theorem dX4_init_108 : decode cX4_init 108 = .ok (.putfield 43, 3) := by decide +kernel
theorem dX4_init_111 : decode cX4_init 111 = .ok (.aload_n 0, 1) := by decide +kernel
theorem dX4_init_112 : decode cX4_init 112 = .ok (.bipush 7, 2) := by decide +kernel
theorem dX4_init_114 : decode cX4_init 114 = .ok (.newarray .int, 2) := by decide +kernel
theorem dX4_init_116 : decode cX4_init 116 = .ok (.putfield 46, 3) := by decide +kernel
theorem dX4_init_119 : decode cX4_init 119 = .ok (.aload_n 0, 1) := by decide +kernel
theorem dX4_init_120 : decode cX4_init 120 = .ok (.bipush 7, 2) := by decide +kernel
theorem dX4_init_122 : decode cX4_init 122 = .ok (.newarray .int, 2) := by decide +kernel
theorem dX4_init_124 : decode cX4_init 124 = .ok (.putfield 49, 3) := by decide +kernel
theorem dX4_init_127 : decode cX4_init 127 = .ok (.aload_n 0, 1) := by decide +kernel
theorem dX4_init_128 : decode cX4_init 128 = .ok (.iconst 0, 1) := by decide +kernel
theorem dX4_init_129 : decode cX4_init 129 = .ok (.putfield 52, 3) := by decide +kernel
theorem dX4_init_132 : decode cX4_init 132 = .ok (.aload_n 0, 1) := by decide +kernel
theorem dX4_init_133 : decode cX4_init 133 = .ok (.iconst 0, 1) := by decide +kernel
theorem dX4_init_134 : decode cX4_init 134 = .ok (.putfield 56, 3) := by decide +kernel
theorem dX4_init_137 : decode cX4_init 137 = .ok (.aload_n 0, 1) := by decide +kernel
theorem dX4_init_138 : decode cX4_init 138 = .ok (.bipush 40, 2) := by decide +kernel
theorem dX4_init_140 : decode cX4_init 140 = .ok (.putfield 59, 3) := by decide +kernel
theorem dX4_init_143 : decode cX4_init 143 = .ok (.aload_n 0, 1) := by decide +kernel
theorem dX4_init_144 : decode cX4_init 144 = .ok (.iconst 3, 1) := by decide +kernel
theorem dX4_init_145 : decode cX4_init 145 = .ok (.putfield 62, 3) := by decide +kernel
theorem dX4_init_148 : decode cX4_init 148 = .ok (.aload_n 0, 1) := by decide +kernel
theorem dX4_init_149 : decode cX4_init 149 = .ok (.iconst 0, 1) := by decide +kernel
theorem dX4_init_150 : decode cX4_init 150 = .ok (.putfield 65, 3) := by decide +kernel
theorem dX4_init_153 : decode cX4_init 153 = .ok (.return_, 1) := by decide +kernel
theorem dX4_become_0 : decode cX4_become 0 = .ok (.aload_n 1, 1) := by decide +kernel
theorem dX4_become_1 : decode cX4_become 1 = .ok (.getfield 39, 3) := by decide +kernel
theorem dX4_become_4 : decode cX4_become 4 = .ok (.iconst 0, 1) := by decide +kernel
theorem dX4_become_5 : decode cX4_become 5 = .ok (.aload_n 0, 1) := by decide +kernel
theorem dX4_become_6 : decode cX4_become 6 = .ok (.getfield 39, 3) := by decide +kernel
theorem dX4_become_9 : decode cX4_become 9 = .ok (.iconst 0, 1) := by decide +kernel
theorem dX4_become_10 : decode cX4_become 10 = .ok (.bipush 7, 2) := by decide +kernel
theorem dX4_become_12 : decode cX4_become 12 = .ok (.invokestatic 68, 3) := by decide +kernel
theorem dX4_become_15 : decode cX4_become 15 = .ok (.aload_n 1, 1) := by decide +kernel
theorem dX4_become_16 : decode cX4_become 16 = .ok (.getfield 43, 3) := by decide +kernel
theorem dX4_become_19 : decode cX4_become 19 = .ok (.iconst 0, 1) := by decide +kernel
theorem dX4_become_20 : decode cX4_become 20 = .ok (.aload_n 0, 1) := by decide +kernel
theorem dX4_become_21 : decode cX4_become 21 = .ok (.getfield 43, 3) := by decide +kernel
theorem dX4_become_24 : decode cX4_become 24 = .ok (.iconst 0, 1) := by decide +kernel
theorem dX4_become_25 : decode cX4_become 25 = .ok (.bipush 7, 2) := by decide +kernel
theorem dX4_become_27 : decode cX4_become 27 = .ok (.invokestatic 68, 3) := by decide +kernel
theorem dX4_become_30 : decode cX4_become 30 = .ok (.aload_n 1, 1) := by decide +kernel
theorem dX4_become_31 : decode cX4_become 31 = .ok (.getfield 46, 3) := by decide +kernel
theorem dX4_become_34 : decode cX4_become 34 = .ok (.iconst 0, 1) := by decide +kernel
theorem dX4_become_35 : decode cX4_become 35 = .ok (.aload_n 0, 1) := by decide +kernel
theorem dX4_become_36 : decode cX4_become 36 = .ok (.getfield 46, 3) := by decide +kernel
theorem dX4_become_39 : decode cX4_become 39 = .ok (.iconst 0, 1) := by decide +kernel
theorem dX4_become_40 : decode cX4_become 40 = .ok (.bipush 7, 2) := by decide +kernel
theorem dX4_become_42 : decode cX4_become 42 = .ok (.invokestatic 68, 3) := by decide +kernel
theorem dX4_become_45 : decode cX4_become 45 = .ok (.aload_n 1, 1) := by decide +kernel
theorem dX4_become_46 : decode cX4_become 46 = .ok (.getfield 49, 3) := by decide +kernel
theorem dX4_become_49 : decode cX4_become 49 = .ok (.iconst 0, 1) := by decide +kernel
theorem dX4_become_50 : decode cX4_become 50 = .ok (.aload_n 0, 1) := by decide +kernel
theorem dX4_become_51 : decode cX4_become 51 = .ok (.getfield 49, 3) := by decide +kernel
theorem dX4_become_54 : decode cX4_become 54 = .ok (.iconst 0, 1) := by decide +kernel
theorem dX4_become_55 : decode cX4_become 55 = .ok (.bipush 7, 2) := by decide +kernel
theorem dX4_become_57 : decode cX4_become 57 = .ok (.invokestatic 68, 3) := by decide +kernel
theorem dX4_become_60 : decode cX4_become 60 = .ok (.aload_n 0, 1) := by decide +kernel
theorem dX4_become_61 : decode cX4_become 61 = .ok (.aload_n 1, 1) := by decide +kernel
theorem dX4_become_62 : decode cX4_become 62 = .ok (.getfield 52, 3) := by decide +kernel
theorem dX4_become_65 : decode cX4_become 65 = .ok (.putfield 52, 3) := by decide +kernel
theorem dX4_become_68 : decode cX4_become 68 = .ok (.aload_n 0, 1) := by decide +kernel
theorem dX4_become_69 : decode cX4_become 69 = .ok (.aload_n 1, 1) := by decide +kernel
theorem dX4_become_70 : decode cX4_become 70 = .ok (.getfield 56, 3) := by decide +kernel
theorem dX4_become_73 : decode cX4_become 73 = .ok (.putfield 56, 3) := by decide +kernel
theorem dX4_become_76 : decode cX4_become 76 = .ok (.aload_n 0, 1) := by decide +kernel
theorem dX4_become_77 : decode cX4_become 77 = .ok (.aload_n 1, 1) := by decide +kernel
theorem dX4_become_78 : decode cX4_become 78 = .ok (.getfield 59, 3) := by decide +kernel
theorem dX4_become_81 : decode cX4_become 81 = .ok (.putfield 59, 3) := by decide +kernel
theorem dX4_become_84 : decode cX4_become 84 = .ok (.aload_n 0, 1) := by decide +kernel
theorem dX4_become_85 : decode cX4_become 85 = .ok (.aload_n 1, 1) := by decide +kernel
theorem dX4_become_86 : decode cX4_become 86 = .ok (.getfield 62, 3) := by decide +kernel
theorem dX4_become_89 : decode cX4_become 89 = .ok (.putfield 62, 3) := by decide +kernel
theorem dX4_become_92 : decode cX4_become 92 = .ok (.aload_n 0, 1) := by decide +kernel
theorem dX4_become_93 : decode cX4_become 93 = .ok (.aload_n 1, 1) := by decide +kernel
theorem dX4_become_94 : decode cX4_become 94 = .ok (.getfield 65, 3) := by decide +kernel
theorem dX4_become_97 : decode cX4_become 97 = .ok (.putfield 65, 3) := by decide +kernel
theorem dX4_become_100 : decode cX4_become 100 = .ok (.return_, 1) := by decide +kernel
theorem dX4_knows_0 : decode cX4_knows 0 = .ok (.iload_n 1, 1) := by decide +kernel
theorem dX4_knows_1 : decode cX4_knows 1 = .ok (.ifCond .lt 15, 3) := by decide +kernel
theorem dX4_knows_4 : decode cX4_knows 4 = .ok (.iload_n 1, 1) := by decide +kernel
theorem dX4_knows_5 : decode cX4_knows 5 = .ok (.aload_n 0, 1) := by decide +kernel
theorem dX4_knows_6 : decode cX4_knows 6 = .ok (.getfield 52, 3) := by decide +kernel
theorem dX4_knows_9 : decode cX4_knows 9 = .ok (.if_icmp .ge 7, 3) := by decide +kernel
theorem dX4_knows_12 : decode cX4_knows 12 = .ok (.iconst 1, 1) := by decide +kernel
theorem dX4_knows_13 : decode cX4_knows 13 = .ok (.goto 4, 3) := by decide +kernel
theorem dX4_knows_16 : decode cX4_knows 16 = .ok (.iconst 0, 1) := by decide +kernel
theorem dX4_knows_17 : decode cX4_knows 17 = .ok (.ireturn, 1) := by decide +kernel
set_option maxRecDepth 20000 in
theorem ggX4_isThere_X11_hasBit : GoodIn wsX4_isThere wsX11_hasBit := goodIn_r _ [4] (by decide +kernel) (by decide +kernel)
set_option maxRecDepth 20000 in
theorem gX4_isThere_X11_hasBit_n74 : GoodIn wsX4_isThere (wsX11_hasBit) := ggX4_isThere_X11_hasBit
theorem dX4_isThere_0 : decode cX4_isThere 0 = .ok (.aload_n 0, 1) := by decide +kernel
theorem dX4_isThere_1 : decode cX4_isThere 1 = .ok (.getfield 56, 3) := by decide +kernel
theorem dX4_isThere_4 : decode cX4_isThere 4 = .ok (.iload_n 1, 1) := by decide +kernel
theorem dX4_isThere_5 : decode cX4_isThere 5 = .ok (.invokestatic 74, 3) := by decide +kernel
theorem dX4_isThere_8 : decode cX4_isThere 8 = .ok (.ireturn, 1) := by decide +kernel
set_option maxRecDepth 20000 in
theorem ggX4_howManyThere_J6_bitCount_0f7a4 : GoodIn wsX4_howManyThere wsJ6_bitCount_0f7a4 := goodIn_r _ [5, 6, 7, 8] (by decide +kernel) (by decide +kernel)
set_option maxRecDepth 20000 in
theorem gX4_howManyThere_J6_bitCount_0f7a4 : GoodIn wsX4_howManyThere (va_wsS RX4 78 yJ6_bitCount_0f7a4 wsJ6_bitCount_0f7a4) := goodIn_app (goodIn_of _ (by decide +kernel)) ggX4_howManyThere_J6_bitCount_0f7a4
theorem dX4_howManyThere_0 : decode cX4_howManyThere 0 = .ok (.aload_n 0, 1) := by decide +kernel
theorem dX4_howManyThere_1 : decode cX4_howManyThere 1 = .ok (.getfield 56, 3) := by decide +kernel
theorem dX4_howManyThere_4 : decode cX4_howManyThere 4 = .ok (.invokestatic 78, 3) := by decide +kernel
theorem dX4_howManyThere_7 : decode cX4_howManyThere 7 = .ok (.ireturn, 1) := by decide +kernel
theorem dX4_takeIn_0 : decode cX4_takeIn 0 = .ok (.aload_n 0, 1) := by decide +kernel
theorem dX4_takeIn_1 : decode cX4_takeIn 1 = .ok (.getfield 52, 3) := by decide +kernel
theorem dX4_takeIn_4 : decode cX4_takeIn 4 = .ok (.bipush 7, 2) := by decide +kernel
theorem dX4_takeIn_6 : decode cX4_takeIn 6 = .ok (.if_icmp .lt 5, 3) := by decide +kernel
theorem dX4_takeIn_9 : decode cX4_takeIn 9 = .ok (.iconst 0, 1) := by decide +kernel
theorem dX4_takeIn_10 : decode cX4_takeIn 10 = .ok (.ireturn, 1) := by decide +kernel
theorem dX4_takeIn_11 : decode cX4_takeIn 11 = .ok (.aload_n 0, 1) := by decide +kernel
theorem dX4_takeIn_12 : decode cX4_takeIn 12 = .ok (.getfield 39, 3) := by decide +kernel
theorem dX4_takeIn_15 : decode cX4_takeIn 15 = .ok (.aload_n 0, 1) := by decide +kernel
theorem dX4_takeIn_16 : decode cX4_takeIn 16 = .ok (.getfield 52, 3) := by decide +kernel
theorem dX4_takeIn_19 : decode cX4_takeIn 19 = .ok (.iload_n 1, 1) := by decide +kernel
theorem dX4_takeIn_20 : decode cX4_takeIn 20 = .ok (.iastore, 1) := by decide +kernel
theorem dX4_takeIn_21 : decode cX4_takeIn 21 = .ok (.aload_n 0, 1) := by decide +kernel
theorem dX4_takeIn_22 : decode cX4_takeIn 22 = .ok (.getfield 43, 3) := by decide +kernel
theorem dX4_takeIn_25 : decode cX4_takeIn 25 = .ok (.aload_n 0, 1) := by decide +kernel
theorem dX4_takeIn_26 : decode cX4_takeIn 26 = .ok (.getfield 52, 3) := by decide +kernel
theorem dX4_takeIn_29 : decode cX4_takeIn 29 = .ok (.iload_n 2, 1) := by decide +kernel
theorem dX4_takeIn_30 : decode cX4_takeIn 30 = .ok (.iastore, 1) := by decide +kernel
theorem dX4_takeIn_31 : decode cX4_takeIn 31 = .ok (.aload_n 0, 1) := by decide +kernel
theorem dX4_takeIn_32 : decode cX4_takeIn 32 = .ok (.getfield 46, 3) := by decide +kernel
theorem dX4_takeIn_35 : decode cX4_takeIn 35 = .ok (.aload_n 0, 1) := by decide +kernel
theorem dX4_takeIn_36 : decode cX4_takeIn 36 = .ok (.getfield 52, 3) := by decide +kernel
theorem dX4_takeIn_39 : decode cX4_takeIn 39 = .ok (.iload_n 3, 1) := by decide +kernel
theorem dX4_takeIn_40 : decode cX4_takeIn 40 = .ok (.iastore, 1) := by decide +kernel
theorem dX4_takeIn_41 : decode cX4_takeIn 41 = .ok (.aload_n 0, 1) := by decide +kernel
theorem dX4_takeIn_42 : decode cX4_takeIn 42 = .ok (.getfield 49, 3) := by decide +kernel
theorem dX4_takeIn_45 : decode cX4_takeIn 45 = .ok (.aload_n 0, 1) := by decide +kernel
theorem dX4_takeIn_46 : decode cX4_takeIn 46 = .ok (.getfield 52, 3) := by decide +kernel
theorem dX4_takeIn_49 : decode cX4_takeIn 49 = .ok (.iconst 0, 1) := by decide +kernel
theorem dX4_takeIn_50 : decode cX4_takeIn 50 = .ok (.iastore, 1) := by decide +kernel
theorem dX4_takeIn_51 : decode cX4_takeIn 51 = .ok (.aload_n 0, 1) := by decide +kernel
theorem dX4_takeIn_52 : decode cX4_takeIn 52 = .ok (.dup, 1) := by decide +kernel
theorem dX4_takeIn_53 : decode cX4_takeIn 53 = .ok (.getfield 56, 3) := by decide +kernel
theorem dX4_takeIn_56 : decode cX4_takeIn 56 = .ok (.iconst 1, 1) := by decide +kernel
theorem dX4_takeIn_57 : decode cX4_takeIn 57 = .ok (.aload_n 0, 1) := by decide +kernel
theorem dX4_takeIn_58 : decode cX4_takeIn 58 = .ok (.getfield 52, 3) := by decide +kernel
theorem dX4_takeIn_61 : decode cX4_takeIn 61 = .ok (.ishl, 1) := by decide +kernel
theorem dX4_takeIn_62 : decode cX4_takeIn 62 = .ok (.ior, 1) := by decide +kernel
theorem dX4_takeIn_63 : decode cX4_takeIn 63 = .ok (.putfield 56, 3) := by decide +kernel
theorem dX4_takeIn_66 : decode cX4_takeIn 66 = .ok (.aload_n 0, 1) := by decide +kernel
theorem dX4_takeIn_67 : decode cX4_takeIn 67 = .ok (.dup, 1) := by decide +kernel
theorem dX4_takeIn_68 : decode cX4_takeIn 68 = .ok (.getfield 52, 3) := by decide +kernel
theorem dX4_takeIn_71 : decode cX4_takeIn 71 = .ok (.iconst 1, 1) := by decide +kernel
theorem dX4_takeIn_72 : decode cX4_takeIn 72 = .ok (.iadd, 1) := by decide +kernel
theorem dX4_takeIn_73 : decode cX4_takeIn 73 = .ok (.putfield 52, 3) := by decide +kernel
theorem dX4_takeIn_76 : decode cX4_takeIn 76 = .ok (.iconst 1, 1) := by decide +kernel
theorem dX4_takeIn_77 : decode cX4_takeIn 77 = .ok (.ireturn, 1) := by decide +kernel
theorem dX4_sendAway_0 : decode cX4_sendAway 0 = .ok (.aload_n 0, 1) := by decide +kernel
theorem dX4_sendAway_1 : decode cX4_sendAway 1 = .ok (.dup, 1) := by decide +kernel
theorem dX4_sendAway_2 : decode cX4_sendAway 2 = .ok (.getfield 56, 3) := by decide +kernel
theorem dX4_sendAway_5 : decode cX4_sendAway 5 = .ok (.iconst 1, 1) := by decide +kernel
theorem dX4_sendAway_6 : decode cX4_sendAway 6 = .ok (.iload_n 1, 1) := by decide +kernel
theorem dX4_sendAway_7 : decode cX4_sendAway 7 = .ok (.ishl, 1) := by decide +kernel
theorem dX4_sendAway_8 : decode cX4_sendAway 8 = .ok (.iconst (-1), 1) := by decide +kernel
theorem dX4_sendAway_9 : decode cX4_sendAway 9 = .ok (.ixor, 1) := by decide +kernel
theorem dX4_sendAway_10 : decode cX4_sendAway 10 = .ok (.iand, 1) := by decide +kernel
theorem dX4_sendAway_11 : decode cX4_sendAway 11 = .ok (.putfield 56, 3) := by decide +kernel
theorem dX4_sendAway_14 : decode cX4_sendAway 14 = .ok (.return_, 1) := by decide +kernel
set_option maxRecDepth 20000 in
theorem ggX4_canLend_X4_isThere : GoodIn wsX4_canLend wsX4_isThere := goodIn_r _ [6, 7, 8, 9, 10, 11, 12, 13, 14, 15, 16, 17, 18, 19, 20] (by decide +kernel) (by decide +kernel)
set_option maxRecDepth 20000 in
theorem gX4_canLend_X4_isThere : GoodIn wsX4_canLend (wsV RX4 84 RX4 yX4_isThere wsX4_isThere) := goodIn_app (goodIn_of _ (by decide +kernel)) ggX4_canLend_X4_isThere
theorem dX4_canLend_0 : decode cX4_canLend 0 = .ok (.aload_n 0, 1) := by decide +kernel
theorem dX4_canLend_1 : decode cX4_canLend 1 = .ok (.iload_n 1, 1) := by decide +kernel
theorem dX4_canLend_2 : decode cX4_canLend 2 = .ok (.invokevirtual 84, 3) := by decide +kernel
theorem dX4_canLend_5 : decode cX4_canLend 5 = .ok (.ifCond .eq 43, 3) := by decide +kernel
theorem dX4_canLend_8 : decode cX4_canLend 8 = .ok (.aload_n 0, 1) := by decide +kernel
theorem dX4_canLend_9 : decode cX4_canLend 9 = .ok (.iload_n 2, 1) := by decide +kernel
theorem dX4_canLend_10 : decode cX4_canLend 10 = .ok (.invokevirtual 84, 3) := by decide +kernel
theorem dX4_canLend_13 : decode cX4_canLend 13 = .ok (.ifCond .eq 35, 3) := by decide +kernel
theorem dX4_canLend_16 : decode cX4_canLend 16 = .ok (.iload_n 3, 1) := by decide +kernel
theorem dX4_canLend_17 : decode cX4_canLend 17 = .ok (.iconst 1, 1) := by decide +kernel
theorem dX4_canLend_18 : decode cX4_canLend 18 = .ok (.if_icmp .lt 30, 3) := by decide +kernel
theorem dX4_canLend_21 : decode cX4_canLend 21 = .ok (.aload_n 0, 1) := by decide +kernel
theorem dX4_canLend_22 : decode cX4_canLend 22 = .ok (.getfield 46, 3) := by decide +kernel
theorem dX4_canLend_25 : decode cX4_canLend 25 = .ok (.iload_n 1, 1) := by decide +kernel
theorem dX4_canLend_26 : decode cX4_canLend 26 = .ok (.iaload, 1) := by decide +kernel
theorem dX4_canLend_27 : decode cX4_canLend 27 = .ok (.iload_n 3, 1) := by decide +kernel
theorem dX4_canLend_28 : decode cX4_canLend 28 = .ok (.if_icmp .lt 20, 3) := by decide +kernel
theorem dX4_canLend_31 : decode cX4_canLend 31 = .ok (.aload_n 0, 1) := by decide +kernel
theorem dX4_canLend_32 : decode cX4_canLend 32 = .ok (.getfield 46, 3) := by decide +kernel
theorem dX4_canLend_35 : decode cX4_canLend 35 = .ok (.iload_n 2, 1) := by decide +kernel
theorem dX4_canLend_36 : decode cX4_canLend 36 = .ok (.iaload, 1) := by decide +kernel
theorem dX4_canLend_37 : decode cX4_canLend 37 = .ok (.iload_n 3, 1) := by decide +kernel
theorem dX4_canLend_38 : decode cX4_canLend 38 = .ok (.iadd, 1) := by decide +kernel
theorem dX4_canLend_39 : decode cX4_canLend 39 = .ok (.bipush 99, 2) := by decide +kernel
theorem dX4_canLend_41 : decode cX4_canLend 41 = .ok (.if_icmp .gt 7, 3) := by decide +kernel
theorem dX4_canLend_44 : decode cX4_canLend 44 = .ok (.iconst 1, 1) := by decide +kernel
theorem dX4_canLend_45 : decode cX4_canLend 45 = .ok (.goto 4, 3) := by decide +kernel
theorem dX4_canLend_48 : decode cX4_canLend 48 = .ok (.iconst 0, 1) := by decide +kernel
theorem dX4_canLend_49 : decode cX4_canLend 49 = .ok (.ireturn, 1) := by decide +kernel
theorem dX4_handOver_0 : decode cX4_handOver 0 = .ok (.aload_n 0, 1) := by decide +kernel
theorem dX4_handOver_1 : decode cX4_handOver 1 = .ok (.getfield 46, 3) := by decide +kernel
theorem dX4_handOver_4 : decode cX4_handOver 4 = .ok (.iload_n 1, 1) := by decide +kernel
theorem dX4_handOver_5 : decode cX4_handOver 5 = .ok (.dup2, 1) := by decide +kernel
theorem dX4_handOver_6 : decode cX4_handOver 6 = .ok (.iaload, 1) := by decide +kernel
theorem dX4_handOver_7 : decode cX4_handOver 7 = .ok (.iload_n 3, 1) := by decide +kernel
theorem dX4_handOver_8 : decode cX4_handOver 8 = .ok (.isub, 1) := by decide +kernel
theorem dX4_handOver_9 : decode cX4_handOver 9 = .ok (.iastore, 1) := by decide +kernel
theorem dX4_handOver_10 : decode cX4_handOver 10 = .ok (.aload_n 0, 1) := by decide +kernel
theorem dX4_handOver_11 : decode cX4_handOver 11 = .ok (.getfield 46, 3) := by decide +kernel
theorem dX4_handOver_14 : decode cX4_handOver 14 = .ok (.iload_n 2, 1) := by decide +kernel
theorem dX4_handOver_15 : decode cX4_handOver 15 = .ok (.dup2, 1) := by decide +kernel
theorem dX4_handOver_16 : decode cX4_handOver 16 = .ok (.iaload, 1) := by decide +kernel
theorem dX4_handOver_17 : decode cX4_handOver 17 = .ok (.iload_n 3, 1) := by decide +kernel
theorem dX4_handOver_18 : decode cX4_handOver 18 = .ok (.iadd, 1) := by decide +kernel
theorem dX4_handOver_19 : decode cX4_handOver 19 = .ok (.iastore, 1) := by decide +kernel
theorem dX4_handOver_20 : decode cX4_handOver 20 = .ok (.return_, 1) := by decide +kernel
set_option maxRecDepth 20000 in
theorem ggX4_catchOf_X0_catches : GoodIn wsX4_catchOf wsX0_catches := goodIn_r _ [11] (by decide +kernel) (by decide +kernel)
set_option maxRecDepth 20000 in
theorem gX4_catchOf_X0_catches_u88X0 : GoodIn wsX4_catchOf (va_wsO RX4 88 RX0 "LetByTheBirds$Tenant" ⟨"LetByTheBirds$Tenant", "catches", "(III)I"⟩ yX0_catches wsX0_catches) := goodIn_app (goodIn_of _ (by decide +kernel)) ggX4_catchOf_X0_catches
set_option maxRecDepth 20000 in
theorem ggX4_catchOf_X1_catches : GoodIn wsX4_catchOf wsX1_catches := goodIn_r _ [16, 17, 6, 18, 19, 20, 12] (by decide +kernel) (by decide +kernel)
set_option maxRecDepth 20000 in
theorem gX4_catchOf_X1_catches_u88X1 : GoodIn wsX4_catchOf (va_wsO RX4 88 RX1 "LetByTheBirds$Tenant" ⟨"LetByTheBirds$Tenant", "catches", "(III)I"⟩ yX1_catches wsX1_catches) := goodIn_app (goodIn_of _ (by decide +kernel)) ggX4_catchOf_X1_catches
set_option maxRecDepth 20000 in
theorem ggX4_catchOf_X2_catches : GoodIn wsX4_catchOf wsX2_catches := goodIn_r _ [24] (by decide +kernel) (by decide +kernel)
set_option maxRecDepth 20000 in
theorem gX4_catchOf_X2_catches_u88X2 : GoodIn wsX4_catchOf (va_wsO RX4 88 RX2 "LetByTheBirds$Tenant" ⟨"LetByTheBirds$Tenant", "catches", "(III)I"⟩ yX2_catches wsX2_catches) := goodIn_app (goodIn_of _ (by decide +kernel)) ggX4_catchOf_X2_catches
set_option maxRecDepth 20000 in
theorem ggX4_catchOf_X3_catches : GoodIn wsX4_catchOf wsX3_catches := goodIn_r _ [28] (by decide +kernel) (by decide +kernel)
set_option maxRecDepth 20000 in
theorem gX4_catchOf_X3_catches_u88X3 : GoodIn wsX4_catchOf (va_wsO RX4 88 RX3 "LetByTheBirds$Tenant" ⟨"LetByTheBirds$Tenant", "catches", "(III)I"⟩ yX3_catches wsX3_catches) := goodIn_app (goodIn_of _ (by decide +kernel)) ggX4_catchOf_X3_catches
set_option maxRecDepth 20000 in
theorem gX4_catchOf_X3_catches_u88X5 : GoodIn wsX4_catchOf (va_wsO RX4 88 RX5 "LetByTheBirds$Tenant" ⟨"LetByTheBirds$Tenant", "catches", "(III)I"⟩ yX3_catches wsX3_catches) := goodIn_app (goodIn_of _ (by decide +kernel)) ggX4_catchOf_X3_catches
set_option maxRecDepth 20000 in
theorem ggX4_catchOf_X6_catches : GoodIn wsX4_catchOf wsX6_catches := goodIn_r _ [33, 34, 35, 36, 9, 10, 11] (by decide +kernel) (by decide +kernel)
set_option maxRecDepth 20000 in
theorem gX4_catchOf_X6_catches_u88X6 : GoodIn wsX4_catchOf (va_wsO RX4 88 RX6 "LetByTheBirds$Tenant" ⟨"LetByTheBirds$Tenant", "catches", "(III)I"⟩ yX6_catches wsX6_catches) := goodIn_app (goodIn_of _ (by decide +kernel)) ggX4_catchOf_X6_catches
set_option maxRecDepth 20000 in
theorem ggX4_catchOf_X8_catches : GoodIn wsX4_catchOf wsX8_catches := goodIn_r _ [12] (by decide +kernel) (by decide +kernel)
set_option maxRecDepth 20000 in
theorem gX4_catchOf_X8_catches : GoodIn wsX4_catchOf (wsV RX4 88 RX8 yX8_catches wsX8_catches) := goodIn_app (goodIn_of _ (by decide +kernel)) ggX4_catchOf_X8_catches
set_option maxRecDepth 20000 in
theorem ggX4_catchOf_X10_catches : GoodIn wsX4_catchOf wsX10_catches := goodIn_r _ [42, 43, 44, 45, 14, 15, 16, 17, 6, 18, 19, 20, 12] (by decide +kernel) (by decide +kernel)
set_option maxRecDepth 20000 in
theorem gX4_catchOf_X10_catches_u88X10 : GoodIn wsX4_catchOf (va_wsO RX4 88 RX10 "LetByTheBirds$Tenant" ⟨"LetByTheBirds$Tenant", "catches", "(III)I"⟩ yX10_catches wsX10_catches) := goodIn_app (goodIn_of _ (by decide +kernel)) ggX4_catchOf_X10_catches
theorem dX4_catchOf_0 : decode cX4_catchOf 0 = .ok (.aload_n 0, 1) := by decide +kernel
theorem dX4_catchOf_1 : decode cX4_catchOf 1 = .ok (.getfield 33, 3) := by decide +kernel
theorem dX4_catchOf_4 : decode cX4_catchOf 4 = .ok (.aload_n 0, 1) := by decide +kernel
theorem dX4_catchOf_5 : decode cX4_catchOf 5 = .ok (.getfield 39, 3) := by decide +kernel
theorem dX4_catchOf_8 : decode cX4_catchOf 8 = .ok (.iload_n 1, 1) := by decide +kernel
theorem dX4_catchOf_9 : decode cX4_catchOf 9 = .ok (.iaload, 1) := by decide +kernel
theorem dX4_catchOf_10 : decode cX4_catchOf 10 = .ok (.aaload, 1) := by decide +kernel
theorem dX4_catchOf_11 : decode cX4_catchOf 11 = .ok (.aload_n 0, 1) := by decide +kernel
theorem dX4_catchOf_12 : decode cX4_catchOf 12 = .ok (.getfield 43, 3) := by decide +kernel
theorem dX4_catchOf_15 : decode cX4_catchOf 15 = .ok (.iload_n 1, 1) := by decide +kernel
theorem dX4_catchOf_16 : decode cX4_catchOf 16 = .ok (.iaload, 1) := by decide +kernel
theorem dX4_catchOf_17 : decode cX4_catchOf 17 = .ok (.aload_n 0, 1) := by decide +kernel
theorem dX4_catchOf_18 : decode cX4_catchOf 18 = .ok (.getfield 62, 3) := by decide +kernel
theorem dX4_catchOf_21 : decode cX4_catchOf 21 = .ok (.iload_n 2, 1) := by decide +kernel
theorem dX4_catchOf_22 : decode cX4_catchOf 22 = .ok (.invokevirtual 88, 3) := by decide +kernel
theorem dX4_catchOf_25 : decode cX4_catchOf 25 = .ok (.ireturn, 1) := by decide +kernel
set_option maxRecDepth 20000 in
theorem ggX4_owedBy_X0_owes : GoodIn wsX4_owedBy wsX0_owes := goodIn_r _ [11] (by decide +kernel) (by decide +kernel)
set_option maxRecDepth 20000 in
theorem gX4_owedBy_X0_owes_u92X0 : GoodIn wsX4_owedBy (va_wsO RX4 92 RX0 "LetByTheBirds$Tenant" ⟨"LetByTheBirds$Tenant", "owes", "(II)I"⟩ yX0_owes wsX0_owes) := goodIn_app (goodIn_of _ (by decide +kernel)) ggX4_owedBy_X0_owes
set_option maxRecDepth 20000 in
theorem ggX4_owedBy_X1_owes : GoodIn wsX4_owedBy wsX1_owes := goodIn_r _ [16] (by decide +kernel) (by decide +kernel)
set_option maxRecDepth 20000 in
theorem gX4_owedBy_X1_owes_u92X1 : GoodIn wsX4_owedBy (va_wsO RX4 92 RX1 "LetByTheBirds$Tenant" ⟨"LetByTheBirds$Tenant", "owes", "(II)I"⟩ yX1_owes wsX1_owes) := goodIn_app (goodIn_of _ (by decide +kernel)) ggX4_owedBy_X1_owes
set_option maxRecDepth 20000 in
theorem ggX4_owedBy_X2_owes : GoodIn wsX4_owedBy wsX2_owes := goodIn_r _ [20] (by decide +kernel) (by decide +kernel)
set_option maxRecDepth 20000 in
theorem gX4_owedBy_X2_owes_u92X2 : GoodIn wsX4_owedBy (va_wsO RX4 92 RX2 "LetByTheBirds$Tenant" ⟨"LetByTheBirds$Tenant", "owes", "(II)I"⟩ yX2_owes wsX2_owes) := goodIn_app (goodIn_of _ (by decide +kernel)) ggX4_owedBy_X2_owes
set_option maxRecDepth 20000 in
theorem ggX4_owedBy_X3_owes : GoodIn wsX4_owedBy wsX3_owes := goodIn_r _ [24] (by decide +kernel) (by decide +kernel)
set_option maxRecDepth 20000 in
theorem gX4_owedBy_X3_owes_u92X3 : GoodIn wsX4_owedBy (va_wsO RX4 92 RX3 "LetByTheBirds$Tenant" ⟨"LetByTheBirds$Tenant", "owes", "(II)I"⟩ yX3_owes wsX3_owes) := goodIn_app (goodIn_of _ (by decide +kernel)) ggX4_owedBy_X3_owes
set_option maxRecDepth 20000 in
theorem ggX4_owedBy_X5_owes : GoodIn wsX4_owedBy wsX5_owes := goodIn_r _ [28, 29, 30, 31, 22, 23, 24] (by decide +kernel) (by decide +kernel)
set_option maxRecDepth 20000 in
theorem gX4_owedBy_X5_owes_u92X5 : GoodIn wsX4_owedBy (va_wsO RX4 92 RX5 "LetByTheBirds$Tenant" ⟨"LetByTheBirds$Tenant", "owes", "(II)I"⟩ yX5_owes wsX5_owes) := goodIn_app (goodIn_of _ (by decide +kernel)) ggX4_owedBy_X5_owes
set_option maxRecDepth 20000 in
theorem ggX4_owedBy_X6_owes : GoodIn wsX4_owedBy wsX6_owes := goodIn_r _ [35, 36, 37, 38, 9, 10, 11] (by decide +kernel) (by decide +kernel)
set_option maxRecDepth 20000 in
theorem gX4_owedBy_X6_owes_u92X6 : GoodIn wsX4_owedBy (va_wsO RX4 92 RX6 "LetByTheBirds$Tenant" ⟨"LetByTheBirds$Tenant", "owes", "(II)I"⟩ yX6_owes wsX6_owes) := goodIn_app (goodIn_of _ (by decide +kernel)) ggX4_owedBy_X6_owes
set_option maxRecDepth 20000 in
theorem ggX4_owedBy_X8_owes : GoodIn wsX4_owedBy wsX8_owes := goodIn_r _ [12] (by decide +kernel) (by decide +kernel)
set_option maxRecDepth 20000 in
theorem gX4_owedBy_X8_owes : GoodIn wsX4_owedBy (wsV RX4 92 RX8 yX8_owes wsX8_owes) := goodIn_app (goodIn_of _ (by decide +kernel)) ggX4_owedBy_X8_owes
set_option maxRecDepth 20000 in
theorem gX4_owedBy_X1_owes_u92X10 : GoodIn wsX4_owedBy (va_wsO RX4 92 RX10 "LetByTheBirds$Tenant" ⟨"LetByTheBirds$Tenant", "owes", "(II)I"⟩ yX1_owes wsX1_owes) := goodIn_app (goodIn_of _ (by decide +kernel)) ggX4_owedBy_X1_owes
theorem dX4_owedBy_0 : decode cX4_owedBy 0 = .ok (.aload_n 0, 1) := by decide +kernel
theorem dX4_owedBy_1 : decode cX4_owedBy 1 = .ok (.getfield 33, 3) := by decide +kernel
theorem dX4_owedBy_4 : decode cX4_owedBy 4 = .ok (.aload_n 0, 1) := by decide +kernel
theorem dX4_owedBy_5 : decode cX4_owedBy 5 = .ok (.getfield 39, 3) := by decide +kernel
theorem dX4_owedBy_8 : decode cX4_owedBy 8 = .ok (.iload_n 1, 1) := by decide +kernel
theorem dX4_owedBy_9 : decode cX4_owedBy 9 = .ok (.iaload, 1) := by decide +kernel
theorem dX4_owedBy_10 : decode cX4_owedBy 10 = .ok (.aaload, 1) := by decide +kernel
theorem dX4_owedBy_11 : decode cX4_owedBy 11 = .ok (.aload_n 0, 1) := by decide +kernel
theorem dX4_owedBy_12 : decode cX4_owedBy 12 = .ok (.getfield 43, 3) := by decide +kernel
theorem dX4_owedBy_15 : decode cX4_owedBy 15 = .ok (.iload_n 1, 1) := by decide +kernel
theorem dX4_owedBy_16 : decode cX4_owedBy 16 = .ok (.iaload, 1) := by decide +kernel
theorem dX4_owedBy_17 : decode cX4_owedBy 17 = .ok (.aload_n 0, 1) := by decide +kernel
theorem dX4_owedBy_18 : decode cX4_owedBy 18 = .ok (.getfield 59, 3) := by decide +kernel
theorem dX4_owedBy_21 : decode cX4_owedBy 21 = .ok (.invokevirtual 92, 3) := by decide +kernel
theorem dX4_owedBy_24 : decode cX4_owedBy 24 = .ok (.ireturn, 1) := by decide +kernel
set_option maxRecDepth 20000 in
theorem ggX4_owedBySet_X11_hasBit : GoodIn wsX4_owedBySet wsX11_hasBit := goodIn_r _ [4] (by decide +kernel) (by decide +kernel)
set_option maxRecDepth 20000 in
theorem gX4_owedBySet_X11_hasBit_n74 : GoodIn wsX4_owedBySet (wsX11_hasBit) := ggX4_owedBySet_X11_hasBit
set_option maxRecDepth 20000 in
theorem ggX4_owedBySet_X4_owedBy : GoodIn wsX4_owedBySet wsX4_owedBy := goodIn_r _ [9, 10, 11, 12, 13, 14, 15, 16, 17, 18, 19, 20, 21, 22, 23, 24, 25, 26, 27, 28, 29, 30, 31, 32, 33, 34, 35, 36, 37, 38, 39, 40, 41, 42, 43, 44, 45, 46, 47, 48, 49, 50, 51, 52, 53, 54, 55, 56, 57, 58, 59, 60, 61, 62] (by decide +kernel) (by decide +kernel)
set_option maxRecDepth 20000 in
theorem gX4_owedBySet_X4_owedBy : GoodIn wsX4_owedBySet (wsV RX4 96 RX4 yX4_owedBy wsX4_owedBy) := goodIn_app (goodIn_of _ (by decide +kernel)) ggX4_owedBySet_X4_owedBy
theorem dX4_owedBySet_0 : decode cX4_owedBySet 0 = .ok (.iconst 0, 1) := by decide +kernel
theorem dX4_owedBySet_1 : decode cX4_owedBySet 1 = .ok (.istore_n 2, 1) := by decide +kernel
theorem dX4_owedBySet_2 : decode cX4_owedBySet 2 = .ok (.iconst 0, 1) := by decide +kernel
theorem dX4_owedBySet_3 : decode cX4_owedBySet 3 = .ok (.istore_n 3, 1) := by decide +kernel
theorem dX4_owedBySet_4 : decode cX4_owedBySet 4 = .ok (.iload_n 3, 1) := by decide +kernel
theorem dX4_owedBySet_5 : decode cX4_owedBySet 5 = .ok (.aload_n 0, 1) := by decide +kernel
theorem dX4_owedBySet_6 : decode cX4_owedBySet 6 = .ok (.getfield 52, 3) := by decide +kernel
theorem dX4_owedBySet_9 : decode cX4_owedBySet 9 = .ok (.if_icmp .ge 25, 3) := by decide +kernel
theorem dX4_owedBySet_12 : decode cX4_owedBySet 12 = .ok (.iload_n 1, 1) := by decide +kernel
theorem dX4_owedBySet_13 : decode cX4_owedBySet 13 = .ok (.iload_n 3, 1) := by decide +kernel
theorem dX4_owedBySet_14 : decode cX4_owedBySet 14 = .ok (.invokestatic 74, 3) := by decide +kernel
theorem dX4_owedBySet_17 : decode cX4_owedBySet 17 = .ok (.ifCond .eq 11, 3) := by decide +kernel
theorem dX4_owedBySet_20 : decode cX4_owedBySet 20 = .ok (.iload_n 2, 1) := by decide +kernel
theorem dX4_owedBySet_21 : decode cX4_owedBySet 21 = .ok (.aload_n 0, 1) := by decide +kernel
theorem dX4_owedBySet_22 : decode cX4_owedBySet 22 = .ok (.iload_n 3, 1) := by decide +kernel
theorem dX4_owedBySet_23 : decode cX4_owedBySet 23 = .ok (.invokevirtual 96, 3) := by decide +kernel
theorem dX4_owedBySet_26 : decode cX4_owedBySet 26 = .ok (.iadd, 1) := by decide +kernel
theorem dX4_owedBySet_27 : decode cX4_owedBySet 27 = .ok (.istore_n 2, 1) := by decide +kernel
theorem dX4_owedBySet_28 : decode cX4_owedBySet 28 = .ok (.iinc 3 1, 3) := by decide +kernel
theorem dX4_owedBySet_31 : decode cX4_owedBySet 31 = .ok (.goto (-27), 3) := by decide +kernel
theorem dX4_owedBySet_34 : decode cX4_owedBySet 34 = .ok (.iload_n 2, 1) := by decide +kernel
theorem dX4_owedBySet_35 : decode cX4_owedBySet 35 = .ok (.ireturn, 1) := by decide +kernel
set_option maxRecDepth 20000 in
theorem ggX4_storeOfSet_X11_hasBit : GoodIn wsX4_storeOfSet wsX11_hasBit := goodIn_r _ [5] (by decide +kernel) (by decide +kernel)
set_option maxRecDepth 20000 in
theorem gX4_storeOfSet_X11_hasBit_n74 : GoodIn wsX4_storeOfSet (wsX11_hasBit) := ggX4_storeOfSet_X11_hasBit
theorem dX4_storeOfSet_0 : decode cX4_storeOfSet 0 = .ok (.iconst 0, 1) := by decide +kernel
theorem dX4_storeOfSet_1 : decode cX4_storeOfSet 1 = .ok (.istore_n 2, 1) := by decide +kernel
theorem dX4_storeOfSet_2 : decode cX4_storeOfSet 2 = .ok (.iconst 0, 1) := by decide +kernel
theorem dX4_storeOfSet_3 : decode cX4_storeOfSet 3 = .ok (.istore_n 3, 1) := by decide +kernel
theorem dX4_storeOfSet_4 : decode cX4_storeOfSet 4 = .ok (.iload_n 3, 1) := by decide +kernel
theorem dX4_storeOfSet_5 : decode cX4_storeOfSet 5 = .ok (.aload_n 0, 1) := by decide +kernel
theorem dX4_storeOfSet_6 : decode cX4_storeOfSet 6 = .ok (.getfield 52, 3) := by decide +kernel
theorem dX4_storeOfSet_9 : decode cX4_storeOfSet 9 = .ok (.if_icmp .ge 26, 3) := by decide +kernel
theorem dX4_storeOfSet_12 : decode cX4_storeOfSet 12 = .ok (.iload_n 1, 1) := by decide +kernel
theorem dX4_storeOfSet_13 : decode cX4_storeOfSet 13 = .ok (.iload_n 3, 1) := by decide +kernel
theorem dX4_storeOfSet_14 : decode cX4_storeOfSet 14 = .ok (.invokestatic 74, 3) := by decide +kernel
theorem dX4_storeOfSet_17 : decode cX4_storeOfSet 17 = .ok (.ifCond .eq 12, 3) := by decide +kernel
theorem dX4_storeOfSet_20 : decode cX4_storeOfSet 20 = .ok (.iload_n 2, 1) := by decide +kernel
theorem dX4_storeOfSet_21 : decode cX4_storeOfSet 21 = .ok (.aload_n 0, 1) := by decide +kernel
theorem dX4_storeOfSet_22 : decode cX4_storeOfSet 22 = .ok (.getfield 46, 3) := by decide +kernel
theorem dX4_storeOfSet_25 : decode cX4_storeOfSet 25 = .ok (.iload_n 3, 1) := by decide +kernel
theorem dX4_storeOfSet_26 : decode cX4_storeOfSet 26 = .ok (.iaload, 1) := by decide +kernel
theorem dX4_storeOfSet_27 : decode cX4_storeOfSet 27 = .ok (.iadd, 1) := by decide +kernel
theorem dX4_storeOfSet_28 : decode cX4_storeOfSet 28 = .ok (.istore_n 2, 1) := by decide +kernel
theorem dX4_storeOfSet_29 : decode cX4_storeOfSet 29 = .ok (.iinc 3 1, 3) := by decide +kernel
theorem dX4_storeOfSet_32 : decode cX4_storeOfSet 32 = .ok (.goto (-28), 3) := by decide +kernel
theorem dX4_storeOfSet_35 : decode cX4_storeOfSet 35 = .ok (.iload_n 2, 1) := by decide +kernel
theorem dX4_storeOfSet_36 : decode cX4_storeOfSet 36 = .ok (.ireturn, 1) := by decide +kernel
set_option maxRecDepth 20000 in
theorem ggX4_poor_X4_isThere : GoodIn wsX4_poor wsX4_isThere := goodIn_r _ [7, 8, 9, 10, 11, 59, 60, 61, 62, 63, 64, 65, 66, 67, 68] (by decide +kernel) (by decide +kernel)
set_option maxRecDepth 20000 in
theorem gX4_poor_X4_isThere : GoodIn wsX4_poor (wsV RX4 84 RX4 yX4_isThere wsX4_isThere) := goodIn_app (goodIn_of _ (by decide +kernel)) ggX4_poor_X4_isThere
set_option maxRecDepth 20000 in
theorem ggX4_poor_X4_owedBy : GoodIn wsX4_poor wsX4_owedBy := goodIn_r _ [15, 16, 17, 18, 19, 20, 21, 22, 23, 24, 25, 26, 27, 28, 29, 30, 31, 32, 33, 34, 35, 36, 37, 38, 39, 40, 41, 42, 43, 44, 45, 46, 47, 48, 49, 50, 51, 52, 53, 54, 55, 56, 57, 58, 59, 60, 61, 62, 63, 64, 65, 66, 67, 68] (by decide +kernel) (by decide +kernel)
set_option maxRecDepth 20000 in
theorem gX4_poor_X4_owedBy : GoodIn wsX4_poor (wsV RX4 96 RX4 yX4_owedBy wsX4_owedBy) := goodIn_app (goodIn_of _ (by decide +kernel)) ggX4_poor_X4_owedBy
theorem dX4_poor_0 : decode cX4_poor 0 = .ok (.iconst 0, 1) := by decide +kernel
theorem dX4_poor_1 : decode cX4_poor 1 = .ok (.istore_n 1, 1) := by decide +kernel
theorem dX4_poor_2 : decode cX4_poor 2 = .ok (.iconst 0, 1) := by decide +kernel
theorem dX4_poor_3 : decode cX4_poor 3 = .ok (.istore_n 2, 1) := by decide +kernel
theorem dX4_poor_4 : decode cX4_poor 4 = .ok (.iload_n 2, 1) := by decide +kernel
theorem dX4_poor_5 : decode cX4_poor 5 = .ok (.aload_n 0, 1) := by decide +kernel
theorem dX4_poor_6 : decode cX4_poor 6 = .ok (.getfield 52, 3) := by decide +kernel
theorem dX4_poor_9 : decode cX4_poor 9 = .ok (.if_icmp .ge 37, 3) := by decide +kernel
theorem dX4_poor_12 : decode cX4_poor 12 = .ok (.aload_n 0, 1) := by decide +kernel
theorem dX4_poor_13 : decode cX4_poor 13 = .ok (.iload_n 2, 1) := by decide +kernel
theorem dX4_poor_14 : decode cX4_poor 14 = .ok (.invokevirtual 84, 3) := by decide +kernel
theorem dX4_poor_17 : decode cX4_poor 17 = .ok (.ifCond .eq 23, 3) := by decide +kernel
theorem dX4_poor_20 : decode cX4_poor 20 = .ok (.aload_n 0, 1) := by decide +kernel
theorem dX4_poor_21 : decode cX4_poor 21 = .ok (.getfield 46, 3) := by decide +kernel
theorem dX4_poor_24 : decode cX4_poor 24 = .ok (.iload_n 2, 1) := by decide +kernel
theorem dX4_poor_25 : decode cX4_poor 25 = .ok (.iaload, 1) := by decide +kernel
theorem dX4_poor_26 : decode cX4_poor 26 = .ok (.aload_n 0, 1) := by decide +kernel
theorem dX4_poor_27 : decode cX4_poor 27 = .ok (.iload_n 2, 1) := by decide +kernel
theorem dX4_poor_28 : decode cX4_poor 28 = .ok (.invokevirtual 96, 3) := by decide +kernel
theorem dX4_poor_31 : decode cX4_poor 31 = .ok (.if_icmp .ge 9, 3) := by decide +kernel
theorem dX4_poor_34 : decode cX4_poor 34 = .ok (.iload_n 1, 1) := by decide +kernel
theorem dX4_poor_35 : decode cX4_poor 35 = .ok (.iconst 1, 1) := by decide +kernel
theorem dX4_poor_36 : decode cX4_poor 36 = .ok (.iload_n 2, 1) := by decide +kernel
theorem dX4_poor_37 : decode cX4_poor 37 = .ok (.ishl, 1) := by decide +kernel
theorem dX4_poor_38 : decode cX4_poor 38 = .ok (.ior, 1) := by decide +kernel
theorem dX4_poor_39 : decode cX4_poor 39 = .ok (.istore_n 1, 1) := by decide +kernel
theorem dX4_poor_40 : decode cX4_poor 40 = .ok (.iinc 2 1, 3) := by decide +kernel
theorem dX4_poor_43 : decode cX4_poor 43 = .ok (.goto (-39), 3) := by decide +kernel
theorem dX4_poor_46 : decode cX4_poor 46 = .ok (.iload_n 1, 1) := by decide +kernel
theorem dX4_poor_47 : decode cX4_poor 47 = .ok (.ireturn, 1) := by decide +kernel
set_option maxRecDepth 20000 in
theorem ggX4_richestThere_X4_isThere : GoodIn wsX4_richestThere wsX4_isThere := goodIn_r _ [7, 8, 9, 10, 11, 12, 13, 14, 15, 16, 17, 18, 19, 20, 21] (by decide +kernel) (by decide +kernel)
set_option maxRecDepth 20000 in
theorem gX4_richestThere_X4_isThere : GoodIn wsX4_richestThere (wsV RX4 84 RX4 yX4_isThere wsX4_isThere) := goodIn_app (goodIn_of _ (by decide +kernel)) ggX4_richestThere_X4_isThere
theorem dX4_richestThere_0 : decode cX4_richestThere 0 = .ok (.bipush (-4), 2) := by decide +kernel
theorem dX4_richestThere_2 : decode cX4_richestThere 2 = .ok (.istore_n 1, 1) := by decide +kernel
theorem dX4_richestThere_3 : decode cX4_richestThere 3 = .ok (.iconst (-1), 1) := by decide +kernel
theorem dX4_richestThere_4 : decode cX4_richestThere 4 = .ok (.istore_n 2, 1) := by decide +kernel
theorem dX4_richestThere_5 : decode cX4_richestThere 5 = .ok (.iconst 0, 1) := by decide +kernel
theorem dX4_richestThere_6 : decode cX4_richestThere 6 = .ok (.istore_n 3, 1) := by decide +kernel
theorem dX4_richestThere_7 : decode cX4_richestThere 7 = .ok (.iload_n 3, 1) := by decide +kernel
theorem dX4_richestThere_8 : decode cX4_richestThere 8 = .ok (.aload_n 0, 1) := by decide +kernel
theorem dX4_richestThere_9 : decode cX4_richestThere 9 = .ok (.getfield 52, 3) := by decide +kernel
theorem dX4_richestThere_12 : decode cX4_richestThere 12 = .ok (.if_icmp .ge 36, 3) := by decide +kernel
theorem dX4_richestThere_15 : decode cX4_richestThere 15 = .ok (.aload_n 0, 1) := by decide +kernel
theorem dX4_richestThere_16 : decode cX4_richestThere 16 = .ok (.iload_n 3, 1) := by decide +kernel
theorem dX4_richestThere_17 : decode cX4_richestThere 17 = .ok (.invokevirtual 84, 3) := by decide +kernel
theorem dX4_richestThere_20 : decode cX4_richestThere 20 = .ok (.ifCond .eq 22, 3) := by decide +kernel
theorem dX4_richestThere_23 : decode cX4_richestThere 23 = .ok (.aload_n 0, 1) := by decide +kernel
theorem dX4_richestThere_24 : decode cX4_richestThere 24 = .ok (.getfield 46, 3) := by decide +kernel
theorem dX4_richestThere_27 : decode cX4_richestThere 27 = .ok (.iload_n 3, 1) := by decide +kernel
theorem dX4_richestThere_28 : decode cX4_richestThere 28 = .ok (.iaload, 1) := by decide +kernel
theorem dX4_richestThere_29 : decode cX4_richestThere 29 = .ok (.iload_n 2, 1) := by decide +kernel
theorem dX4_richestThere_30 : decode cX4_richestThere 30 = .ok (.if_icmp .le 12, 3) := by decide +kernel
theorem dX4_richestThere_33 : decode cX4_richestThere 33 = .ok (.aload_n 0, 1) := by decide +kernel
theorem dX4_richestThere_34 : decode cX4_richestThere 34 = .ok (.getfield 46, 3) := by decide +kernel
theorem dX4_richestThere_37 : decode cX4_richestThere 37 = .ok (.iload_n 3, 1) := by decide +kernel
theorem dX4_richestThere_38 : decode cX4_richestThere 38 = .ok (.iaload, 1) := by decide +kernel
theorem dX4_richestThere_39 : decode cX4_richestThere 39 = .ok (.istore_n 2, 1) := by decide +kernel
theorem dX4_richestThere_40 : decode cX4_richestThere 40 = .ok (.iload_n 3, 1) := by decide +kernel
theorem dX4_richestThere_41 : decode cX4_richestThere 41 = .ok (.istore_n 1, 1) := by decide +kernel
theorem dX4_richestThere_42 : decode cX4_richestThere 42 = .ok (.iinc 3 1, 3) := by decide +kernel
theorem dX4_richestThere_45 : decode cX4_richestThere 45 = .ok (.goto (-38), 3) := by decide +kernel
theorem dX4_richestThere_48 : decode cX4_richestThere 48 = .ok (.iload_n 1, 1) := by decide +kernel
theorem dX4_richestThere_49 : decode cX4_richestThere 49 = .ok (.ireturn, 1) := by decide +kernel
theorem dX4_hasDaysLeft_0 : decode cX4_hasDaysLeft 0 = .ok (.aload_n 0, 1) := by decide +kernel
theorem dX4_hasDaysLeft_1 : decode cX4_hasDaysLeft 1 = .ok (.getfield 65, 3) := by decide +kernel
theorem dX4_hasDaysLeft_4 : decode cX4_hasDaysLeft 4 = .ok (.iload_n 1, 1) := by decide +kernel
theorem dX4_hasDaysLeft_5 : decode cX4_hasDaysLeft 5 = .ok (.iadd, 1) := by decide +kernel
theorem dX4_hasDaysLeft_6 : decode cX4_hasDaysLeft 6 = .ok (.sipush 999, 3) := by decide +kernel
theorem dX4_hasDaysLeft_9 : decode cX4_hasDaysLeft 9 = .ok (.if_icmp .gt 7, 3) := by decide +kernel
theorem dX4_hasDaysLeft_12 : decode cX4_hasDaysLeft 12 = .ok (.iconst 1, 1) := by decide +kernel
theorem dX4_hasDaysLeft_13 : decode cX4_hasDaysLeft 13 = .ok (.goto 4, 3) := by decide +kernel
theorem dX4_hasDaysLeft_16 : decode cX4_hasDaysLeft 16 = .ok (.iconst 0, 1) := by decide +kernel
theorem dX4_hasDaysLeft_17 : decode cX4_hasDaysLeft 17 = .ok (.ireturn, 1) := by decide +kernel
theorem dX4_daysToRent_0 : decode cX4_daysToRent 0 = .ok (.bipush 10, 2) := by decide +kernel
theorem dX4_daysToRent_2 : decode cX4_daysToRent 2 = .ok (.aload_n 0, 1) := by decide +kernel
theorem dX4_daysToRent_3 : decode cX4_daysToRent 3 = .ok (.getfield 65, 3) := by decide +kernel
theorem dX4_daysToRent_6 : decode cX4_daysToRent 6 = .ok (.bipush 10, 2) := by decide +kernel
theorem dX4_daysToRent_8 : decode cX4_daysToRent 8 = .ok (.irem, 1) := by decide +kernel
theorem dX4_daysToRent_9 : decode cX4_daysToRent 9 = .ok (.isub, 1) := by decide +kernel
theorem dX4_daysToRent_10 : decode cX4_daysToRent 10 = .ok (.ireturn, 1) := by decide +kernel
set_option maxRecDepth 20000 in
theorem ggX4_wants_X4_isThere : GoodIn wsX4_wants wsX4_isThere := goodIn_r _ [14, 15, 16, 17, 18, 43, 44, 45, 46, 47, 48, 49, 50, 51, 52] (by decide +kernel) (by decide +kernel)
set_option maxRecDepth 20000 in
theorem gX4_wants_X4_isThere : GoodIn wsX4_wants (wsV RX4 84 RX4 yX4_isThere wsX4_isThere) := goodIn_app (goodIn_of _ (by decide +kernel)) ggX4_wants_X4_isThere
set_option maxRecDepth 20000 in
theorem ggX4_wants_X8_frightens : GoodIn wsX4_wants wsX8_frightens := goodIn_r _ [24] (by decide +kernel) (by decide +kernel)
set_option maxRecDepth 20000 in
theorem gX4_wants_X8_frightens_u99X0 : GoodIn wsX4_wants (va_wsU RX4 99 RX0 "LetByTheBirds$Tenant" ⟨"LetByTheBirds$Tenant", "frightens", "()I"⟩ yX8_frightens wsX8_frightens) := goodIn_app (goodIn_of _ (by decide +kernel)) ggX4_wants_X8_frightens
set_option maxRecDepth 20000 in
theorem ggX4_wants_X1_frightens : GoodIn wsX4_wants wsX1_frightens := goodIn_r _ [29] (by decide +kernel) (by decide +kernel)
set_option maxRecDepth 20000 in
theorem gX4_wants_X1_frightens_u99X1 : GoodIn wsX4_wants (va_wsO RX4 99 RX1 "LetByTheBirds$Tenant" ⟨"LetByTheBirds$Tenant", "frightens", "()I"⟩ yX1_frightens wsX1_frightens) := goodIn_app (goodIn_of _ (by decide +kernel)) ggX4_wants_X1_frightens
set_option maxRecDepth 20000 in
theorem gX4_wants_X8_frightens_u99X2 : GoodIn wsX4_wants (va_wsU RX4 99 RX2 "LetByTheBirds$Tenant" ⟨"LetByTheBirds$Tenant", "frightens", "()I"⟩ yX8_frightens wsX8_frightens) := goodIn_app (goodIn_of _ (by decide +kernel)) ggX4_wants_X8_frightens
set_option maxRecDepth 20000 in
theorem gX4_wants_X8_frightens_u99X3 : GoodIn wsX4_wants (va_wsU RX4 99 RX3 "LetByTheBirds$Tenant" ⟨"LetByTheBirds$Tenant", "frightens", "()I"⟩ yX8_frightens wsX8_frightens) := goodIn_app (goodIn_of _ (by decide +kernel)) ggX4_wants_X8_frightens
set_option maxRecDepth 20000 in
theorem gX4_wants_X8_frightens_u99X5 : GoodIn wsX4_wants (va_wsU RX4 99 RX5 "LetByTheBirds$Tenant" ⟨"LetByTheBirds$Tenant", "frightens", "()I"⟩ yX8_frightens wsX8_frightens) := goodIn_app (goodIn_of _ (by decide +kernel)) ggX4_wants_X8_frightens
set_option maxRecDepth 20000 in
theorem gX4_wants_X8_frightens_u99X6 : GoodIn wsX4_wants (va_wsU RX4 99 RX6 "LetByTheBirds$Tenant" ⟨"LetByTheBirds$Tenant", "frightens", "()I"⟩ yX8_frightens wsX8_frightens) := goodIn_app (goodIn_of _ (by decide +kernel)) ggX4_wants_X8_frightens
set_option maxRecDepth 20000 in
theorem gX4_wants_X8_frightens : GoodIn wsX4_wants (wsV RX4 99 RX8 yX8_frightens wsX8_frightens) := goodIn_app (goodIn_of _ (by decide +kernel)) ggX4_wants_X8_frightens
set_option maxRecDepth 20000 in
theorem ggX4_wants_X10_frightens : GoodIn wsX4_wants wsX10_frightens := goodIn_r _ [39, 40, 41, 42, 27, 28, 29] (by decide +kernel) (by decide +kernel)
set_option maxRecDepth 20000 in
theorem gX4_wants_X10_frightens_u99X10 : GoodIn wsX4_wants (va_wsO RX4 99 RX10 "LetByTheBirds$Tenant" ⟨"LetByTheBirds$Tenant", "frightens", "()I"⟩ yX10_frightens wsX10_frightens) := goodIn_app (goodIn_of _ (by decide +kernel)) ggX4_wants_X10_frightens
theorem dX4_wants_0 : decode cX4_wants 0 = .ok (.aload_n 0, 1) := by decide +kernel
theorem dX4_wants_1 : decode cX4_wants 1 = .ok (.getfield 62, 3) := by decide +kernel
theorem dX4_wants_4 : decode cX4_wants 4 = .ok (.istore_n 1, 1) := by decide +kernel
theorem dX4_wants_5 : decode cX4_wants 5 = .ok (.iconst 0, 1) := by decide +kernel
theorem dX4_wants_6 : decode cX4_wants 6 = .ok (.istore_n 2, 1) := by decide +kernel
theorem dX4_wants_7 : decode cX4_wants 7 = .ok (.iload_n 2, 1) := by decide +kernel
theorem dX4_wants_8 : decode cX4_wants 8 = .ok (.aload_n 0, 1) := by decide +kernel
theorem dX4_wants_9 : decode cX4_wants 9 = .ok (.getfield 52, 3) := by decide +kernel
theorem dX4_wants_12 : decode cX4_wants 12 = .ok (.if_icmp .ge 34, 3) := by decide +kernel
theorem dX4_wants_15 : decode cX4_wants 15 = .ok (.aload_n 0, 1) := by decide +kernel
theorem dX4_wants_16 : decode cX4_wants 16 = .ok (.iload_n 2, 1) := by decide +kernel
theorem dX4_wants_17 : decode cX4_wants 17 = .ok (.invokevirtual 84, 3) := by decide +kernel
theorem dX4_wants_20 : decode cX4_wants 20 = .ok (.ifCond .eq 20, 3) := by decide +kernel
theorem dX4_wants_23 : decode cX4_wants 23 = .ok (.iload_n 1, 1) := by decide +kernel
theorem dX4_wants_24 : decode cX4_wants 24 = .ok (.aload_n 0, 1) := by decide +kernel
theorem dX4_wants_25 : decode cX4_wants 25 = .ok (.getfield 33, 3) := by decide +kernel
theorem dX4_wants_28 : decode cX4_wants 28 = .ok (.aload_n 0, 1) := by decide +kernel
theorem dX4_wants_29 : decode cX4_wants 29 = .ok (.getfield 39, 3) := by decide +kernel
theorem dX4_wants_32 : decode cX4_wants 32 = .ok (.iload_n 2, 1) := by decide +kernel
theorem dX4_wants_33 : decode cX4_wants 33 = .ok (.iaload, 1) := by decide +kernel
theorem dX4_wants_34 : decode cX4_wants 34 = .ok (.aaload, 1) := by decide +kernel
theorem dX4_wants_35 : decode cX4_wants 35 = .ok (.invokevirtual 99, 3) := by decide +kernel
theorem dX4_wants_38 : decode cX4_wants 38 = .ok (.isub, 1) := by decide +kernel
theorem dX4_wants_39 : decode cX4_wants 39 = .ok (.istore_n 1, 1) := by decide +kernel
theorem dX4_wants_40 : decode cX4_wants 40 = .ok (.iinc 2 1, 3) := by decide +kernel
theorem dX4_wants_43 : decode cX4_wants 43 = .ok (.goto (-36), 3) := by decide +kernel
theorem dX4_wants_46 : decode cX4_wants 46 = .ok (.iconst 0, 1) := by decide +kernel
theorem dX4_wants_47 : decode cX4_wants 47 = .ok (.aload_n 0, 1) := by decide +kernel
theorem dX4_wants_48 : decode cX4_wants 48 = .ok (.getfield 59, 3) := by decide +kernel
theorem dX4_wants_51 : decode cX4_wants 51 = .ok (.iconst 5, 1) := by decide +kernel
theorem dX4_wants_52 : decode cX4_wants 52 = .ok (.iconst 0, 1) := by decide +kernel
theorem dX4_wants_53 : decode cX4_wants 53 = .ok (.iload_n 1, 1) := by decide +kernel
theorem dX4_wants_54 : decode cX4_wants 54 = .ok (.invokestatic 103, 3) := by decide +kernel
theorem dX4_wants_57 : decode cX4_wants 57 = .ok (.imul, 1) := by decide +kernel
theorem dX4_wants_58 : decode cX4_wants 58 = .ok (.isub, 1) := by decide +kernel
theorem dX4_wants_59 : decode cX4_wants 59 = .ok (.invokestatic 103, 3) := by decide +kernel
theorem dX4_wants_62 : decode cX4_wants 62 = .ok (.ireturn, 1) := by decide +kernel
set_option maxRecDepth 20000 in
theorem ggX4_goOn_X4_oneDay : GoodIn wsX4_goOn wsX4_oneDay := goodIn_r _ [5, 6, 7, 8, 9, 10, 11, 12, 13, 14, 15, 16, 17, 18, 4, 19, 20, 21, 22, 23, 24, 25, 26, 27, 28, 29, 30, 31, 32, 33, 34, 35, 36, 37, 38, 39, 40, 41, 42, 43, 44, 45, 46, 47, 48, 49, 50, 51, 52, 53, 54, 55, 56, 57, 58, 59, 60, 61, 62, 63, 64, 65, 66, 67, 68, 69, 70, 71, 72, 73, 74, 75, 76, 77, 78, 79, 80, 81, 82, 83, 84, 85, 86, 87, 88, 89, 90, 91, 92, 93, 94, 95, 96, 97, 98, 99, 100, 101, 102, 103, 104, 105, 106, 107, 108, 109, 110, 111, 112, 113, 114, 115, 116, 117, 118, 119, 120, 121, 122, 123, 124, 125, 126, 127, 128, 129, 130, 131, 132, 133, 134, 135, 136, 137, 138, 139, 140, 141, 142, 143, 144, 145, 146, 147, 148, 149, 150, 151, 152, 153, 154, 155, 156] (by decide +kernel) (by decide +kernel)
set_option maxRecDepth 20000 in
theorem gX4_goOn_X4_oneDay : GoodIn wsX4_goOn (wsV RX4 108 RX4 yX4_oneDay wsX4_oneDay) := goodIn_app (goodIn_of _ (by decide +kernel)) ggX4_goOn_X4_oneDay
theorem dX4_goOn_0 : decode cX4_goOn 0 = .ok (.iconst 0, 1) := by decide +kernel
theorem dX4_goOn_1 : decode cX4_goOn 1 = .ok (.istore_n 2, 1) := by decide +kernel
theorem dX4_goOn_2 : decode cX4_goOn 2 = .ok (.iload_n 2, 1) := by decide +kernel
theorem dX4_goOn_3 : decode cX4_goOn 3 = .ok (.iload_n 1, 1) := by decide +kernel
theorem dX4_goOn_4 : decode cX4_goOn 4 = .ok (.if_icmp .ge 14, 3) := by decide +kernel
theorem dX4_goOn_7 : decode cX4_goOn 7 = .ok (.aload_n 0, 1) := by decide +kernel
theorem dX4_goOn_8 : decode cX4_goOn 8 = .ok (.invokevirtual 108, 3) := by decide +kernel
theorem dX4_goOn_11 : decode cX4_goOn 11 = .ok (.pop, 1) := by decide +kernel
theorem dX4_goOn_12 : decode cX4_goOn 12 = .ok (.iinc 2 1, 3) := by decide +kernel
theorem dX4_goOn_15 : decode cX4_goOn 15 = .ok (.goto (-13), 3) := by decide +kernel
theorem dX4_goOn_18 : decode cX4_goOn 18 = .ok (.return_, 1) := by decide +kernel
set_option maxRecDepth 20000 in
theorem ggX4_goOnToRent_X4_daysToRent : GoodIn wsX4_goOnToRent wsX4_daysToRent := goodIn_r _ [5, 6, 155, 156, 157, 158, 159, 160, 161, 162, 163, 164] (by decide +kernel) (by decide +kernel)
set_option maxRecDepth 20000 in
theorem gX4_goOnToRent_X4_daysToRent : GoodIn wsX4_goOnToRent (wsV RX4 111 RX4 yX4_daysToRent wsX4_daysToRent) := goodIn_app (goodIn_of _ (by decide +kernel)) ggX4_goOnToRent_X4_daysToRent
set_option maxRecDepth 20000 in
theorem ggX4_goOnToRent_X4_goOn : GoodIn wsX4_goOnToRent wsX4_goOn := goodIn_r _ [10, 11, 12, 13, 4, 14, 6, 15, 16, 17, 18, 19, 20, 21, 22, 23, 24, 25, 26, 27, 28, 29, 30, 31, 32, 33, 34, 35, 36, 37, 38, 39, 40, 41, 42, 43, 44, 45, 46, 47, 48, 49, 50, 51, 52, 53, 54, 55, 56, 57, 58, 59, 60, 61, 62, 63, 64, 65, 66, 67, 68, 69, 70, 71, 72, 73, 74, 75, 76, 77, 78, 79, 80, 81, 82, 83, 84, 85, 86, 87, 88, 89, 90, 91, 92, 93, 94, 95, 96, 97, 98, 99, 100, 101, 102, 103, 104, 105, 106, 107, 108, 109, 110, 111, 112, 113, 114, 115, 116, 117, 118, 119, 120, 121, 122, 123, 124, 125, 126, 127, 128, 129, 130, 131, 132, 133, 134, 135, 136, 137, 138, 139, 140, 141, 142, 143, 144, 145, 146, 147, 148, 149, 150, 151, 152, 153, 154, 155, 156, 157, 158, 159, 160, 161, 162, 163, 164] (by decide +kernel) (by decide +kernel)
set_option maxRecDepth 20000 in
theorem gX4_goOnToRent_X4_goOn : GoodIn wsX4_goOnToRent (wsV RX4 114 RX4 yX4_goOn wsX4_goOn) := goodIn_app (goodIn_of _ (by decide +kernel)) ggX4_goOnToRent_X4_goOn
set_option maxRecDepth 20000 in
theorem ggX4_goOnToRent_X4_oneDay : GoodIn wsX4_goOnToRent wsX4_oneDay := goodIn_r _ [14, 6, 15, 16, 17, 18, 19, 20, 21, 22, 23, 24, 25, 26, 4, 27, 28, 29, 30, 31, 32, 33, 34, 35, 36, 37, 38, 39, 40, 41, 42, 43, 44, 45, 46, 47, 48, 49, 50, 51, 52, 53, 54, 55, 56, 57, 58, 59, 60, 61, 62, 63, 64, 65, 66, 67, 68, 69, 70, 71, 72, 73, 74, 75, 76, 77, 78, 79, 80, 81, 82, 83, 84, 85, 86, 87, 88, 89, 90, 91, 92, 93, 94, 95, 96, 97, 98, 99, 100, 101, 102, 103, 104, 105, 106, 107, 108, 109, 110, 111, 112, 113, 114, 115, 116, 117, 118, 119, 120, 121, 122, 123, 124, 125, 126, 127, 128, 129, 130, 131, 132, 133, 134, 135, 136, 137, 138, 139, 140, 141, 142, 143, 144, 145, 146, 147, 148, 149, 150, 151, 152, 153, 154, 155, 156, 157, 158, 159, 160, 161, 162, 163, 164] (by decide +kernel) (by decide +kernel)
set_option maxRecDepth 20000 in
theorem gX4_goOnToRent_X4_oneDay : GoodIn wsX4_goOnToRent (wsV RX4 108 RX4 yX4_oneDay wsX4_oneDay) := goodIn_app (goodIn_of _ (by decide +kernel)) ggX4_goOnToRent_X4_oneDay
theorem dX4_goOnToRent_0 : decode cX4_goOnToRent 0 = .ok (.aload_n 0, 1) := by decide +kernel
theorem dX4_goOnToRent_1 : decode cX4_goOnToRent 1 = .ok (.aload_n 0, 1) := by decide +kernel
theorem dX4_goOnToRent_2 : decode cX4_goOnToRent 2 = .ok (.invokevirtual 111, 3) := by decide +kernel
theorem dX4_goOnToRent_5 : decode cX4_goOnToRent 5 = .ok (.iconst 1, 1) := by decide +kernel
theorem dX4_goOnToRent_6 : decode cX4_goOnToRent 6 = .ok (.isub, 1) := by decide +kernel
theorem dX4_goOnToRent_7 : decode cX4_goOnToRent 7 = .ok (.invokevirtual 114, 3) := by decide +kernel
theorem dX4_goOnToRent_10 : decode cX4_goOnToRent 10 = .ok (.aload_n 0, 1) := by decide +kernel
theorem dX4_goOnToRent_11 : decode cX4_goOnToRent 11 = .ok (.invokevirtual 108, 3) := by decide +kernel
theorem dX4_goOnToRent_14 : decode cX4_goOnToRent 14 = .ok (.ireturn, 1) := by decide +kernel
set_option maxRecDepth 20000 in
theorem ggX4_oneDay_X4_isThere : GoodIn wsX4_oneDay wsX4_isThere := goodIn_r _ [15, 16, 17, 18, 19, 143, 144, 145, 146, 147, 148, 149, 150, 151, 152] (by decide +kernel) (by decide +kernel)
set_option maxRecDepth 20000 in
theorem gX4_oneDay_X4_isThere : GoodIn wsX4_oneDay (wsV RX4 84 RX4 yX4_isThere wsX4_isThere) := goodIn_app (goodIn_of _ (by decide +kernel)) ggX4_oneDay_X4_isThere
set_option maxRecDepth 20000 in
theorem ggX4_oneDay_X4_catchOf : GoodIn wsX4_oneDay wsX4_catchOf := goodIn_r _ [23, 24, 25, 26, 27, 28, 29, 30, 31, 32, 33, 34, 35, 36, 37, 38, 39, 40, 41, 42, 43, 44, 45, 46, 47, 48, 49, 50, 51, 52, 53, 54, 55, 56, 57, 58, 59, 60, 61, 62, 63, 64, 65, 66, 67, 68, 143, 144, 145, 146, 147, 148, 149, 150, 151, 152] (by decide +kernel) (by decide +kernel)
set_option maxRecDepth 20000 in
theorem gX4_oneDay_X4_catchOf : GoodIn wsX4_oneDay (wsV RX4 118 RX4 yX4_catchOf wsX4_catchOf) := goodIn_app (goodIn_of _ (by decide +kernel)) ggX4_oneDay_X4_catchOf
set_option maxRecDepth 20000 in
theorem ggX4_oneDay_X4_payRent : GoodIn wsX4_oneDay wsX4_payRent := goodIn_r _ [72, 2, 3, 4, 5, 6, 7, 73, 27, 8, 9, 10, 74, 75, 76, 14, 77, 24, 25, 11, 12, 13, 15, 16, 17, 18, 19, 78, 79, 80, 81, 43, 82, 83, 84, 85, 38, 86, 87, 88, 89, 90, 91, 92, 93, 94, 64, 95, 96, 97, 68, 98, 99, 100, 101, 26, 102, 103, 104, 105, 106, 33, 107, 108, 109, 110, 111, 112, 113, 46, 114, 115, 116, 50, 117, 118, 119, 120, 121, 122, 123, 124, 125, 126, 55, 127, 128, 129, 59, 130, 131, 132, 133, 134, 135, 136, 137, 138, 139, 140, 141, 142, 143, 144, 145, 146, 147, 148, 149, 150, 151, 152] (by decide +kernel) (by decide +kernel)
set_option maxRecDepth 20000 in
theorem gX4_oneDay_X4_payRent : GoodIn wsX4_oneDay (wsV RX4 124 RX4 yX4_payRent wsX4_payRent) := goodIn_app (goodIn_of _ (by decide +kernel)) ggX4_oneDay_X4_payRent
theorem dX4_oneDay_0 : decode cX4_oneDay 0 = .ok (.aload_n 0, 1) := by decide +kernel
theorem dX4_oneDay_1 : decode cX4_oneDay 1 = .ok (.dup, 1) := by decide +kernel
theorem dX4_oneDay_2 : decode cX4_oneDay 2 = .ok (.getfield 65, 3) := by decide +kernel
theorem dX4_oneDay_5 : decode cX4_oneDay 5 = .ok (.iconst 1, 1) := by decide +kernel
theorem dX4_oneDay_6 : decode cX4_oneDay 6 = .ok (.iadd, 1) := by decide +kernel
theorem dX4_oneDay_7 : decode cX4_oneDay 7 = .ok (.putfield 65, 3) := by decide +kernel
theorem dX4_oneDay_10 : decode cX4_oneDay 10 = .ok (.iconst 0, 1) := by decide +kernel
theorem dX4_oneDay_11 : decode cX4_oneDay 11 = .ok (.istore_n 1, 1) := by decide +kernel
theorem dX4_oneDay_12 : decode cX4_oneDay 12 = .ok (.iload_n 1, 1) := by decide +kernel
theorem dX4_oneDay_13 : decode cX4_oneDay 13 = .ok (.aload_n 0, 1) := by decide +kernel
theorem dX4_oneDay_14 : decode cX4_oneDay 14 = .ok (.getfield 52, 3) := by decide +kernel
theorem dX4_oneDay_17 : decode cX4_oneDay 17 = .ok (.if_icmp .ge 52, 3) := by decide +kernel
theorem dX4_oneDay_20 : decode cX4_oneDay 20 = .ok (.aload_n 0, 1) := by decide +kernel
theorem dX4_oneDay_21 : decode cX4_oneDay 21 = .ok (.iload_n 1, 1) := by decide +kernel
theorem dX4_oneDay_22 : decode cX4_oneDay 22 = .ok (.invokevirtual 84, 3) := by decide +kernel
theorem dX4_oneDay_25 : decode cX4_oneDay 25 = .ok (.ifCond .eq 38, 3) := by decide +kernel
theorem dX4_oneDay_28 : decode cX4_oneDay 28 = .ok (.bipush 99, 2) := by decide +kernel
theorem dX4_oneDay_30 : decode cX4_oneDay 30 = .ok (.aload_n 0, 1) := by decide +kernel
theorem dX4_oneDay_31 : decode cX4_oneDay 31 = .ok (.getfield 46, 3) := by decide +kernel
theorem dX4_oneDay_34 : decode cX4_oneDay 34 = .ok (.iload_n 1, 1) := by decide +kernel
theorem dX4_oneDay_35 : decode cX4_oneDay 35 = .ok (.iaload, 1) := by decide +kernel
theorem dX4_oneDay_36 : decode cX4_oneDay 36 = .ok (.aload_n 0, 1) := by decide +kernel
theorem dX4_oneDay_37 : decode cX4_oneDay 37 = .ok (.iload_n 1, 1) := by decide +kernel
theorem dX4_oneDay_38 : decode cX4_oneDay 38 = .ok (.aload_n 0, 1) := by decide +kernel
theorem dX4_oneDay_39 : decode cX4_oneDay 39 = .ok (.getfield 65, 3) := by decide +kernel
theorem dX4_oneDay_42 : decode cX4_oneDay 42 = .ok (.invokevirtual 118, 3) := by decide +kernel
theorem dX4_oneDay_45 : decode cX4_oneDay 45 = .ok (.iadd, 1) := by decide +kernel
theorem dX4_oneDay_46 : decode cX4_oneDay 46 = .ok (.invokestatic 121, 3) := by decide +kernel
theorem dX4_oneDay_49 : decode cX4_oneDay 49 = .ok (.istore_n 2, 1) := by decide +kernel
theorem dX4_oneDay_50 : decode cX4_oneDay 50 = .ok (.aload_n 0, 1) := by decide +kernel
theorem dX4_oneDay_51 : decode cX4_oneDay 51 = .ok (.getfield 46, 3) := by decide +kernel
theorem dX4_oneDay_54 : decode cX4_oneDay 54 = .ok (.iload_n 1, 1) := by decide +kernel
theorem dX4_oneDay_55 : decode cX4_oneDay 55 = .ok (.iconst 0, 1) := by decide +kernel
theorem dX4_oneDay_56 : decode cX4_oneDay 56 = .ok (.iload_n 2, 1) := by decide +kernel
theorem dX4_oneDay_57 : decode cX4_oneDay 57 = .ok (.iconst 1, 1) := by decide +kernel
theorem dX4_oneDay_58 : decode cX4_oneDay 58 = .ok (.isub, 1) := by decide +kernel
theorem dX4_oneDay_59 : decode cX4_oneDay 59 = .ok (.invokestatic 103, 3) := by decide +kernel
theorem dX4_oneDay_62 : decode cX4_oneDay 62 = .ok (.iastore, 1) := by decide +kernel
theorem dX4_oneDay_63 : decode cX4_oneDay 63 = .ok (.iinc 1 1, 3) := by decide +kernel
theorem dX4_oneDay_66 : decode cX4_oneDay 66 = .ok (.goto (-54), 3) := by decide +kernel
theorem dX4_oneDay_69 : decode cX4_oneDay 69 = .ok (.aload_n 0, 1) := by decide +kernel
theorem dX4_oneDay_70 : decode cX4_oneDay 70 = .ok (.getfield 65, 3) := by decide +kernel
theorem dX4_oneDay_73 : decode cX4_oneDay 73 = .ok (.bipush 10, 2) := by decide +kernel
theorem dX4_oneDay_75 : decode cX4_oneDay 75 = .ok (.irem, 1) := by decide +kernel
theorem dX4_oneDay_76 : decode cX4_oneDay 76 = .ok (.ifCond .ne 10, 3) := by decide +kernel
theorem dX4_oneDay_79 : decode cX4_oneDay 79 = .ok (.aload_n 0, 1) := by decide +kernel
theorem dX4_oneDay_80 : decode cX4_oneDay 80 = .ok (.invokevirtual 124, 3) := by decide +kernel
theorem dX4_oneDay_83 : decode cX4_oneDay 83 = .ok (.goto 4, 3) := by decide +kernel
theorem dX4_oneDay_86 : decode cX4_oneDay 86 = .ok (.iconst 0, 1) := by decide +kernel
theorem dX4_oneDay_87 : decode cX4_oneDay 87 = .ok (.ireturn, 1) := by decide +kernel
set_option maxRecDepth 20000 in
theorem ggX4_payRent_X4_wants : GoodIn wsX4_payRent wsX4_wants := goodIn_r _ [16, 8, 1, 17, 18, 7, 9, 10, 5, 11, 19, 20, 21, 15, 22, 23, 24, 25, 26, 27, 28, 29, 30, 31, 32, 33, 34, 35, 36, 37, 38, 39, 40, 41, 42, 43, 44, 45, 46, 47, 48, 49, 50, 102, 103, 104, 105, 106, 107, 108, 109, 110, 111] (by decide +kernel) (by decide +kernel)
set_option maxRecDepth 20000 in
theorem gX4_payRent_X4_wants : GoodIn wsX4_payRent (wsV RX4 127 RX4 yX4_wants wsX4_wants) := goodIn_app (goodIn_of _ (by decide +kernel)) ggX4_payRent_X4_wants
set_option maxRecDepth 20000 in
theorem ggX4_payRent_X4_isThere : GoodIn wsX4_payRent wsX4_isThere := goodIn_r _ [22, 23, 24, 25, 26, 102, 103, 104, 105, 106, 107, 108, 109, 110, 111] (by decide +kernel) (by decide +kernel)
set_option maxRecDepth 20000 in
theorem gX4_payRent_X4_isThere : GoodIn wsX4_payRent (wsV RX4 84 RX4 yX4_isThere wsX4_isThere) := goodIn_app (goodIn_of _ (by decide +kernel)) ggX4_payRent_X4_isThere
set_option maxRecDepth 20000 in
theorem ggX4_payRent_X4_owedBy : GoodIn wsX4_payRent wsX4_owedBy := goodIn_r _ [54, 17, 18, 55, 7, 56, 57, 58, 59, 60, 61, 62, 63, 64, 65, 36, 66, 67, 68, 69, 70, 71, 72, 73, 74, 75, 76, 77, 78, 79, 80, 81, 82, 83, 84, 85, 86, 87, 88, 89, 90, 91, 31, 92, 102, 103, 104, 105, 106, 107, 108, 109, 110, 111] (by decide +kernel) (by decide +kernel)
set_option maxRecDepth 20000 in
theorem gX4_payRent_X4_owedBy : GoodIn wsX4_payRent (wsV RX4 96 RX4 yX4_owedBy wsX4_owedBy) := goodIn_app (goodIn_of _ (by decide +kernel)) ggX4_payRent_X4_owedBy
set_option maxRecDepth 20000 in
theorem ggX4_payRent_X4_judgePayment : GoodIn wsX4_payRent wsX4_judgePayment := goodIn_r _ [96, 97, 98, 99, 100, 15, 101, 23, 102, 103, 104, 105, 106, 107, 108, 109, 110, 111] (by decide +kernel) (by decide +kernel)
set_option maxRecDepth 20000 in
theorem gX4_payRent_X4_judgePayment : GoodIn wsX4_payRent (wsV RX4 130 RX4 yX4_judgePayment wsX4_judgePayment) := goodIn_app (goodIn_of _ (by decide +kernel)) ggX4_payRent_X4_judgePayment
theorem dX4_payRent_0 : decode cX4_payRent 0 = .ok (.aload_n 0, 1) := by decide +kernel
theorem dX4_payRent_1 : decode cX4_payRent 1 = .ok (.invokevirtual 127, 3) := by decide +kernel
theorem dX4_payRent_4 : decode cX4_payRent 4 = .ok (.istore_n 1, 1) := by decide +kernel
theorem dX4_payRent_5 : decode cX4_payRent 5 = .ok (.iconst 0, 1) := by decide +kernel
theorem dX4_payRent_6 : decode cX4_payRent 6 = .ok (.istore_n 2, 1) := by decide +kernel
theorem dX4_payRent_7 : decode cX4_payRent 7 = .ok (.iconst 0, 1) := by decide +kernel
theorem dX4_payRent_8 : decode cX4_payRent 8 = .ok (.istore_n 3, 1) := by decide +kernel
theorem dX4_payRent_9 : decode cX4_payRent 9 = .ok (.iload_n 3, 1) := by decide +kernel
theorem dX4_payRent_10 : decode cX4_payRent 10 = .ok (.aload_n 0, 1) := by decide +kernel
theorem dX4_payRent_11 : decode cX4_payRent 11 = .ok (.getfield 52, 3) := by decide +kernel
theorem dX4_payRent_14 : decode cX4_payRent 14 = .ok (.if_icmp .ge 87, 3) := by decide +kernel
theorem dX4_payRent_17 : decode cX4_payRent 17 = .ok (.aload_n 0, 1) := by decide +kernel
theorem dX4_payRent_18 : decode cX4_payRent 18 = .ok (.iload_n 3, 1) := by decide +kernel
theorem dX4_payRent_19 : decode cX4_payRent 19 = .ok (.invokevirtual 84, 3) := by decide +kernel
theorem dX4_payRent_22 : decode cX4_payRent 22 = .ok (.ifCond .eq 73, 3) := by decide +kernel
theorem dX4_payRent_25 : decode cX4_payRent 25 = .ok (.aload_n 0, 1) := by decide +kernel
theorem dX4_payRent_26 : decode cX4_payRent 26 = .ok (.iload_n 3, 1) := by decide +kernel
theorem dX4_payRent_27 : decode cX4_payRent 27 = .ok (.invokevirtual 96, 3) := by decide +kernel
theorem dX4_payRent_30 : decode cX4_payRent 30 = .ok (.istore 4, 2) := by decide +kernel
theorem dX4_payRent_32 : decode cX4_payRent 32 = .ok (.aload_n 0, 1) := by decide +kernel
theorem dX4_payRent_33 : decode cX4_payRent 33 = .ok (.getfield 46, 3) := by decide +kernel
theorem dX4_payRent_36 : decode cX4_payRent 36 = .ok (.iload_n 3, 1) := by decide +kernel
theorem dX4_payRent_37 : decode cX4_payRent 37 = .ok (.iaload, 1) := by decide +kernel
theorem dX4_payRent_38 : decode cX4_payRent 38 = .ok (.iload 4, 2) := by decide +kernel
theorem dX4_payRent_40 : decode cX4_payRent 40 = .ok (.if_icmp .lt 8, 3) := by decide +kernel
theorem dX4_payRent_43 : decode cX4_payRent 43 = .ok (.iload 4, 2) := by decide +kernel
theorem dX4_payRent_45 : decode cX4_payRent 45 = .ok (.goto 4, 3) := by decide +kernel
theorem dX4_payRent_48 : decode cX4_payRent 48 = .ok (.iconst 0, 1) := by decide +kernel
theorem dX4_payRent_49 : decode cX4_payRent 49 = .ok (.istore 5, 2) := by decide +kernel
theorem dX4_payRent_51 : decode cX4_payRent 51 = .ok (.iload 5, 2) := by decide +kernel
theorem dX4_payRent_53 : decode cX4_payRent 53 = .ok (.iload_n 1, 1) := by decide +kernel
theorem dX4_payRent_54 : decode cX4_payRent 54 = .ok (.invokestatic 121, 3) := by decide +kernel
theorem dX4_payRent_57 : decode cX4_payRent 57 = .ok (.istore 6, 2) := by decide +kernel
theorem dX4_payRent_59 : decode cX4_payRent 59 = .ok (.aload_n 0, 1) := by decide +kernel
theorem dX4_payRent_60 : decode cX4_payRent 60 = .ok (.getfield 46, 3) := by decide +kernel
theorem dX4_payRent_63 : decode cX4_payRent 63 = .ok (.iload_n 3, 1) := by decide +kernel
theorem dX4_payRent_64 : decode cX4_payRent 64 = .ok (.dup2, 1) := by decide +kernel
theorem dX4_payRent_65 : decode cX4_payRent 65 = .ok (.iaload, 1) := by decide +kernel
theorem dX4_payRent_66 : decode cX4_payRent 66 = .ok (.iload 5, 2) := by decide +kernel
theorem dX4_payRent_68 : decode cX4_payRent 68 = .ok (.isub, 1) := by decide +kernel
theorem dX4_payRent_69 : decode cX4_payRent 69 = .ok (.iastore, 1) := by decide +kernel
theorem dX4_payRent_70 : decode cX4_payRent 70 = .ok (.iload_n 1, 1) := by decide +kernel
theorem dX4_payRent_71 : decode cX4_payRent 71 = .ok (.iload 6, 2) := by decide +kernel
theorem dX4_payRent_73 : decode cX4_payRent 73 = .ok (.isub, 1) := by decide +kernel
theorem dX4_payRent_74 : decode cX4_payRent 74 = .ok (.istore_n 1, 1) := by decide +kernel
theorem dX4_payRent_75 : decode cX4_payRent 75 = .ok (.iload_n 2, 1) := by decide +kernel
theorem dX4_payRent_76 : decode cX4_payRent 76 = .ok (.aload_n 0, 1) := by decide +kernel
theorem dX4_payRent_77 : decode cX4_payRent 77 = .ok (.iload_n 3, 1) := by decide +kernel
theorem dX4_payRent_78 : decode cX4_payRent 78 = .ok (.iload 6, 2) := by decide +kernel
theorem dX4_payRent_80 : decode cX4_payRent 80 = .ok (.iload 4, 2) := by decide +kernel
theorem dX4_payRent_82 : decode cX4_payRent 82 = .ok (.if_icmp .ne 7, 3) := by decide +kernel
theorem dX4_payRent_85 : decode cX4_payRent 85 = .ok (.iconst 1, 1) := by decide +kernel
theorem dX4_payRent_86 : decode cX4_payRent 86 = .ok (.goto 4, 3) := by decide +kernel
theorem dX4_payRent_89 : decode cX4_payRent 89 = .ok (.iconst 0, 1) := by decide +kernel
theorem dX4_payRent_90 : decode cX4_payRent 90 = .ok (.invokevirtual 130, 3) := by decide +kernel
theorem dX4_payRent_93 : decode cX4_payRent 93 = .ok (.ior, 1) := by decide +kernel
theorem dX4_payRent_94 : decode cX4_payRent 94 = .ok (.istore_n 2, 1) := by decide +kernel
theorem dX4_payRent_95 : decode cX4_payRent 95 = .ok (.iinc 3 1, 3) := by decide +kernel
theorem dX4_payRent_98 : decode cX4_payRent 98 = .ok (.goto (-89), 3) := by decide +kernel
theorem dX4_payRent_101 : decode cX4_payRent 101 = .ok (.aload_n 0, 1) := by decide +kernel
theorem dX4_payRent_102 : decode cX4_payRent 102 = .ok (.iconst 0, 1) := by decide +kernel
theorem dX4_payRent_103 : decode cX4_payRent 103 = .ok (.bipush 99, 2) := by decide +kernel
theorem dX4_payRent_105 : decode cX4_payRent 105 = .ok (.aload_n 0, 1) := by decide +kernel
theorem dX4_payRent_106 : decode cX4_payRent 106 = .ok (.getfield 59, 3) := by decide +kernel
theorem dX4_payRent_109 : decode cX4_payRent 109 = .ok (.aload_n 0, 1) := by decide +kernel
theorem dX4_payRent_110 : decode cX4_payRent 110 = .ok (.getfield 62, 3) := by decide +kernel
theorem dX4_payRent_113 : decode cX4_payRent 113 = .ok (.iadd, 1) := by decide +kernel
theorem dX4_payRent_114 : decode cX4_payRent 114 = .ok (.iconst 3, 1) := by decide +kernel
theorem dX4_payRent_115 : decode cX4_payRent 115 = .ok (.isub, 1) := by decide +kernel
theorem dX4_payRent_116 : decode cX4_payRent 116 = .ok (.invokestatic 121, 3) := by decide +kernel
theorem dX4_payRent_119 : decode cX4_payRent 119 = .ok (.invokestatic 103, 3) := by decide +kernel
theorem dX4_payRent_122 : decode cX4_payRent 122 = .ok (.putfield 59, 3) := by decide +kernel
theorem dX4_payRent_125 : decode cX4_payRent 125 = .ok (.iload_n 2, 1) := by decide +kernel
theorem dX4_payRent_126 : decode cX4_payRent 126 = .ok (.ireturn, 1) := by decide +kernel
set_option maxRecDepth 20000 in
theorem ggX4_judgePayment_X4_sendAway : GoodIn wsX4_judgePayment wsX4_sendAway := goodIn_r _ [6, 7, 8, 9, 10, 11, 12, 13, 14, 15, 16, 17] (by decide +kernel) (by decide +kernel)
set_option maxRecDepth 20000 in
theorem gX4_judgePayment_X4_sendAway : GoodIn wsX4_judgePayment (wsV RX4 134 RX4 yX4_sendAway wsX4_sendAway) := goodIn_app (goodIn_of _ (by decide +kernel)) ggX4_judgePayment_X4_sendAway
theorem dX4_judgePayment_0 : decode cX4_judgePayment 0 = .ok (.iload_n 2, 1) := by decide +kernel
theorem dX4_judgePayment_1 : decode cX4_judgePayment 1 = .ok (.ifCond .eq 12, 3) := by decide +kernel
theorem dX4_judgePayment_4 : decode cX4_judgePayment 4 = .ok (.aload_n 0, 1) := by decide +kernel
theorem dX4_judgePayment_5 : decode cX4_judgePayment 5 = .ok (.getfield 49, 3) := by decide +kernel
theorem dX4_judgePayment_8 : decode cX4_judgePayment 8 = .ok (.iload_n 1, 1) := by decide +kernel
theorem dX4_judgePayment_9 : decode cX4_judgePayment 9 = .ok (.iconst 0, 1) := by decide +kernel
theorem dX4_judgePayment_10 : decode cX4_judgePayment 10 = .ok (.iastore, 1) := by decide +kernel
theorem dX4_judgePayment_11 : decode cX4_judgePayment 11 = .ok (.iconst 0, 1) := by decide +kernel
theorem dX4_judgePayment_12 : decode cX4_judgePayment 12 = .ok (.ireturn, 1) := by decide +kernel
theorem dX4_judgePayment_13 : decode cX4_judgePayment 13 = .ok (.aload_n 0, 1) := by decide +kernel
theorem dX4_judgePayment_14 : decode cX4_judgePayment 14 = .ok (.getfield 49, 3) := by decide +kernel
theorem dX4_judgePayment_17 : decode cX4_judgePayment 17 = .ok (.iload_n 1, 1) := by decide +kernel
theorem dX4_judgePayment_18 : decode cX4_judgePayment 18 = .ok (.dup2, 1) := by decide +kernel
theorem dX4_judgePayment_19 : decode cX4_judgePayment 19 = .ok (.iaload, 1) := by decide +kernel
theorem dX4_judgePayment_20 : decode cX4_judgePayment 20 = .ok (.iconst 1, 1) := by decide +kernel
theorem dX4_judgePayment_21 : decode cX4_judgePayment 21 = .ok (.iadd, 1) := by decide +kernel
theorem dX4_judgePayment_22 : decode cX4_judgePayment 22 = .ok (.iastore, 1) := by decide +kernel
theorem dX4_judgePayment_23 : decode cX4_judgePayment 23 = .ok (.aload_n 0, 1) := by decide +kernel
theorem dX4_judgePayment_24 : decode cX4_judgePayment 24 = .ok (.getfield 49, 3) := by decide +kernel
theorem dX4_judgePayment_27 : decode cX4_judgePayment 27 = .ok (.iload_n 1, 1) := by decide +kernel
theorem dX4_judgePayment_28 : decode cX4_judgePayment 28 = .ok (.iaload, 1) := by decide +kernel
theorem dX4_judgePayment_29 : decode cX4_judgePayment 29 = .ok (.iconst 2, 1) := by decide +kernel
theorem dX4_judgePayment_30 : decode cX4_judgePayment 30 = .ok (.if_icmp .lt 8, 3) := by decide +kernel
theorem dX4_judgePayment_33 : decode cX4_judgePayment 33 = .ok (.aload_n 0, 1) := by decide +kernel
theorem dX4_judgePayment_34 : decode cX4_judgePayment 34 = .ok (.iload_n 1, 1) := by decide +kernel
theorem dX4_judgePayment_35 : decode cX4_judgePayment 35 = .ok (.invokevirtual 134, 3) := by decide +kernel
theorem dX4_judgePayment_38 : decode cX4_judgePayment 38 = .ok (.iconst 1, 1) := by decide +kernel
theorem dX4_judgePayment_39 : decode cX4_judgePayment 39 = .ok (.iload_n 1, 1) := by decide +kernel
theorem dX4_judgePayment_40 : decode cX4_judgePayment 40 = .ok (.ishl, 1) := by decide +kernel
theorem dX4_judgePayment_41 : decode cX4_judgePayment 41 = .ok (.ireturn, 1) := by decide +kernel
set_option maxRecDepth 20000 in
theorem ggX5_init_X3_init : GoodIn wsX5_init wsX3_init := goodIn_r _ [3, 4, 5, 6, 7, 8, 9] (by decide +kernel) (by decide +kernel)
set_option maxRecDepth 20000 in
theorem gX5_init_X3_init_n1 : GoodIn wsX5_init (wsX3_init) := ggX5_init_X3_init
theorem dX5_init_0 : decode cX5_init 0 = .ok (.aload_n 0, 1) := by decide +kernel
theorem dX5_init_1 : decode cX5_init 1 = .ok (.invokespecial 1, 3) := by decide +kernel
theorem dX5_init_4 : decode cX5_init 4 = .ok (.return_, 1) := by decide +kernel
set_option maxRecDepth 20000 in
theorem ggX5_owes_X3_owes : GoodIn wsX5_owes wsX3_owes := goodIn_r _ [6] (by decide +kernel) (by decide +kernel)
set_option maxRecDepth 20000 in
theorem gX5_owes_X3_owes_s7 : GoodIn wsX5_owes (va_wsSU RX5 7 yX3_owes wsX3_owes) := goodIn_app (goodIn_of _ (by decide +kernel)) ggX5_owes_X3_owes
theorem dX5_owes_0 : decode cX5_owes 0 = .ok (.aload_n 0, 1) := by decide +kernel
theorem dX5_owes_1 : decode cX5_owes 1 = .ok (.iload_n 1, 1) := by decide +kernel
theorem dX5_owes_2 : decode cX5_owes 2 = .ok (.iload_n 2, 1) := by decide +kernel
theorem dX5_owes_3 : decode cX5_owes 3 = .ok (.invokespecial 7, 3) := by decide +kernel
theorem dX5_owes_6 : decode cX5_owes 6 = .ok (.iconst 2, 1) := by decide +kernel
theorem dX5_owes_7 : decode cX5_owes 7 = .ok (.idiv, 1) := by decide +kernel
theorem dX5_owes_8 : decode cX5_owes 8 = .ok (.ireturn, 1) := by decide +kernel
set_option maxRecDepth 20000 in
theorem ggX5_costs_X3_costs : GoodIn wsX5_costs wsX3_costs := goodIn_r _ [6, 7, 8, 9, 10, 11, 12] (by decide +kernel) (by decide +kernel)
set_option maxRecDepth 20000 in
theorem gX5_costs_X3_costs_s11 : GoodIn wsX5_costs (va_wsSU RX5 11 yX3_costs wsX3_costs) := goodIn_app (goodIn_of _ (by decide +kernel)) ggX5_costs_X3_costs
theorem dX5_costs_0 : decode cX5_costs 0 = .ok (.aload_n 0, 1) := by decide +kernel
theorem dX5_costs_1 : decode cX5_costs 1 = .ok (.iload_n 1, 1) := by decide +kernel
theorem dX5_costs_2 : decode cX5_costs 2 = .ok (.invokespecial 11, 3) := by decide +kernel
theorem dX5_costs_5 : decode cX5_costs 5 = .ok (.iload_n 1, 1) := by decide +kernel
theorem dX5_costs_6 : decode cX5_costs 6 = .ok (.iadd, 1) := by decide +kernel
theorem dX5_costs_7 : decode cX5_costs 7 = .ok (.ireturn, 1) := by decide +kernel
theorem dX5_fail_0 : decode cX5_fail 0 = .ok (.iload_n 1, 1) := by decide +kernel
theorem dX5_fail_1 : decode cX5_fail 1 = .ok (.ifCond .eq 13, 3) := by decide +kernel
theorem dX5_fail_4 : decode cX5_fail 4 = .ok (.new 15, 3) := by decide +kernel
theorem dX5_fail_7 : decode cX5_fail 7 = .ok (.dup, 1) := by decide +kernel
theorem dX5_fail_8 : decode cX5_fail 8 = .ok (.ldc 17, 2) := by decide +kernel
theorem dX5_fail_10 : decode cX5_fail 10 = .ok (.invokespecial 19, 3) := by decide +kernel
theorem dX5_fail_13 : decode cX5_fail 13 = .ok (.athrow, 1) := by decide +kernel
theorem dX5_fail_14 : decode cX5_fail 14 = .ok (.return_, 1) := by decide +kernel
set_option maxRecDepth 20000 in
theorem ggX6_init_X0_init : GoodIn wsX6_init wsX0_init := goodIn_r _ [3, 4, 5, 6, 7, 8, 9] (by decide +kernel) (by decide +kernel)
set_option maxRecDepth 20000 in
theorem gX6_init_X0_init_n1 : GoodIn wsX6_init (wsX0_init) := ggX6_init_X0_init
theorem dX6_init_0 : decode cX6_init 0 = .ok (.aload_n 0, 1) := by decide +kernel
theorem dX6_init_1 : decode cX6_init 1 = .ok (.invokespecial 1, 3) := by decide +kernel
theorem dX6_init_4 : decode cX6_init 4 = .ok (.return_, 1) := by decide +kernel
set_option maxRecDepth 20000 in
theorem ggX6_catches_X0_catches : GoodIn wsX6_catches wsX0_catches := goodIn_r _ [6] (by decide +kernel) (by decide +kernel)
set_option maxRecDepth 20000 in
theorem gX6_catches_X0_catches_s7 : GoodIn wsX6_catches (va_wsSU RX6 7 yX0_catches wsX0_catches) := goodIn_app (goodIn_of _ (by decide +kernel)) ggX6_catches_X0_catches
theorem dX6_catches_0 : decode cX6_catches 0 = .ok (.aload_n 0, 1) := by decide +kernel
theorem dX6_catches_1 : decode cX6_catches 1 = .ok (.iload_n 1, 1) := by decide +kernel
theorem dX6_catches_2 : decode cX6_catches 2 = .ok (.iload_n 2, 1) := by decide +kernel
theorem dX6_catches_3 : decode cX6_catches 3 = .ok (.iload_n 3, 1) := by decide +kernel
theorem dX6_catches_4 : decode cX6_catches 4 = .ok (.invokespecial 7, 3) := by decide +kernel
theorem dX6_catches_7 : decode cX6_catches 7 = .ok (.iload_n 3, 1) := by decide +kernel
theorem dX6_catches_8 : decode cX6_catches 8 = .ok (.iconst 2, 1) := by decide +kernel
theorem dX6_catches_9 : decode cX6_catches 9 = .ok (.irem, 1) := by decide +kernel
theorem dX6_catches_10 : decode cX6_catches 10 = .ok (.ifCond .ne 7, 3) := by decide +kernel
theorem dX6_catches_13 : decode cX6_catches 13 = .ok (.iconst 1, 1) := by decide +kernel
theorem dX6_catches_14 : decode cX6_catches 14 = .ok (.goto 4, 3) := by decide +kernel
theorem dX6_catches_17 : decode cX6_catches 17 = .ok (.iconst 0, 1) := by decide +kernel
theorem dX6_catches_18 : decode cX6_catches 18 = .ok (.iadd, 1) := by decide +kernel
theorem dX6_catches_19 : decode cX6_catches 19 = .ok (.ireturn, 1) := by decide +kernel
set_option maxRecDepth 20000 in
theorem ggX6_owes_X0_owes : GoodIn wsX6_owes wsX0_owes := goodIn_r _ [6] (by decide +kernel) (by decide +kernel)
set_option maxRecDepth 20000 in
theorem gX6_owes_X0_owes_s11 : GoodIn wsX6_owes (va_wsSU RX6 11 yX0_owes wsX0_owes) := goodIn_app (goodIn_of _ (by decide +kernel)) ggX6_owes_X0_owes
theorem dX6_owes_0 : decode cX6_owes 0 = .ok (.aload_n 0, 1) := by decide +kernel
theorem dX6_owes_1 : decode cX6_owes 1 = .ok (.iload_n 1, 1) := by decide +kernel
theorem dX6_owes_2 : decode cX6_owes 2 = .ok (.iload_n 2, 1) := by decide +kernel
theorem dX6_owes_3 : decode cX6_owes 3 = .ok (.invokespecial 11, 3) := by decide +kernel
theorem dX6_owes_6 : decode cX6_owes 6 = .ok (.iconst 2, 1) := by decide +kernel
theorem dX6_owes_7 : decode cX6_owes 7 = .ok (.idiv, 1) := by decide +kernel
theorem dX6_owes_8 : decode cX6_owes 8 = .ok (.ireturn, 1) := by decide +kernel
theorem dX6_costs_0 : decode cX6_costs 0 = .ok (.iconst 0, 1) := by decide +kernel
theorem dX6_costs_1 : decode cX6_costs 1 = .ok (.ireturn, 1) := by decide +kernel
theorem dX7_init_0 : decode cX7_init 0 = .ok (.aload_n 0, 1) := by decide +kernel
theorem dX7_init_1 : decode cX7_init 1 = .ok (.invokespecial 3, 3) := by decide +kernel
theorem dX7_init_4 : decode cX7_init 4 = .ok (.aload_n 0, 1) := by decide +kernel
theorem dX7_init_5 : decode cX7_init 5 = .ok (.iconst 0, 1) := by decide +kernel
theorem dX7_init_6 : decode cX7_init 6 = .ok (.putfield 11, 3) := by decide +kernel
theorem dX7_init_9 : decode cX7_init 9 = .ok (.aload_n 0, 1) := by decide +kernel
theorem dX7_init_10 : decode cX7_init 10 = .ok (.iconst 0, 1) := by decide +kernel
theorem dX7_init_11 : decode cX7_init 11 = .ok (.putfield 15, 3) := by decide +kernel
theorem dX7_init_14 : decode cX7_init 14 = .ok (.aload_n 0, 1) := by decide +kernel
theorem dX7_init_15 : decode cX7_init 15 = .ok (.iconst 0, 1) := by decide +kernel
theorem dX7_init_16 : decode cX7_init 16 = .ok (.putfield 18, 3) := by decide +kernel
theorem dX7_init_19 : decode cX7_init 19 = .ok (.aload_n 0, 1) := by decide +kernel
theorem dX7_init_20 : decode cX7_init 20 = .ok (.iconst 0, 1) := by decide +kernel
theorem dX7_init_21 : decode cX7_init 21 = .ok (.putfield 21, 3) := by decide +kernel
theorem dX7_init_24 : decode cX7_init 24 = .ok (.aload_n 0, 1) := by decide +kernel
theorem dX7_init_25 : decode cX7_init 25 = .ok (.iconst 0, 1) := by decide +kernel
theorem dX7_init_26 : decode cX7_init 26 = .ok (.putfield 24, 3) := by decide +kernel
theorem dX7_init_29 : decode cX7_init 29 = .ok (.aload_n 0, 1) := by decide +kernel
theorem dX7_init_30 : decode cX7_init 30 = .ok (.bipush 100, 2) := by decide +kernel
theorem dX7_init_32 : decode cX7_init 32 = .ok (.newarray .int, 2) := by decide +kernel
theorem dX7_init_34 : decode cX7_init 34 = .ok (.putfield 27, 3) := by decide +kernel
theorem dX7_init_37 : decode cX7_init 37 = .ok (.return_, 1) := by decide +kernel
theorem dX7_clear_0 : decode cX7_clear 0 = .ok (.aload_n 0, 1) := by decide +kernel
theorem dX7_clear_1 : decode cX7_clear 1 = .ok (.iconst 0, 1) := by decide +kernel
theorem dX7_clear_2 : decode cX7_clear 2 = .ok (.putfield 11, 3) := by decide +kernel
theorem dX7_clear_5 : decode cX7_clear 5 = .ok (.return_, 1) := by decide +kernel
theorem dX7_holdOne_0 : decode cX7_holdOne 0 = .ok (.aload_n 0, 1) := by decide +kernel
theorem dX7_holdOne_1 : decode cX7_holdOne 1 = .ok (.iconst 1, 1) := by decide +kernel
theorem dX7_holdOne_2 : decode cX7_holdOne 2 = .ok (.putfield 11, 3) := by decide +kernel
theorem dX7_holdOne_5 : decode cX7_holdOne 5 = .ok (.aload_n 0, 1) := by decide +kernel
theorem dX7_holdOne_6 : decode cX7_holdOne 6 = .ok (.iload_n 1, 1) := by decide +kernel
theorem dX7_holdOne_7 : decode cX7_holdOne 7 = .ok (.putfield 15, 3) := by decide +kernel
theorem dX7_holdOne_10 : decode cX7_holdOne 10 = .ok (.aload_n 0, 1) := by decide +kernel
theorem dX7_holdOne_11 : decode cX7_holdOne 11 = .ok (.iload_n 2, 1) := by decide +kernel
theorem dX7_holdOne_12 : decode cX7_holdOne 12 = .ok (.putfield 18, 3) := by decide +kernel
theorem dX7_holdOne_15 : decode cX7_holdOne 15 = .ok (.return_, 1) := by decide +kernel
theorem dX7_holdRow_0 : decode cX7_holdRow 0 = .ok (.aload_n 0, 1) := by decide +kernel
theorem dX7_holdRow_1 : decode cX7_holdRow 1 = .ok (.iconst 2, 1) := by decide +kernel
theorem dX7_holdRow_2 : decode cX7_holdRow 2 = .ok (.putfield 11, 3) := by decide +kernel
theorem dX7_holdRow_5 : decode cX7_holdRow 5 = .ok (.aload_n 0, 1) := by decide +kernel
theorem dX7_holdRow_6 : decode cX7_holdRow 6 = .ok (.iload_n 1, 1) := by decide +kernel
theorem dX7_holdRow_7 : decode cX7_holdRow 7 = .ok (.putfield 21, 3) := by decide +kernel
theorem dX7_holdRow_10 : decode cX7_holdRow 10 = .ok (.aload_n 0, 1) := by decide +kernel
theorem dX7_holdRow_11 : decode cX7_holdRow 11 = .ok (.iload_n 2, 1) := by decide +kernel
theorem dX7_holdRow_12 : decode cX7_holdRow 12 = .ok (.putfield 24, 3) := by decide +kernel
theorem dX7_holdRow_15 : decode cX7_holdRow 15 = .ok (.iconst 0, 1) := by decide +kernel
theorem dX7_holdRow_16 : decode cX7_holdRow 16 = .ok (.istore_n 3, 1) := by decide +kernel
theorem dX7_holdRow_17 : decode cX7_holdRow 17 = .ok (.iload_n 3, 1) := by decide +kernel
theorem dX7_holdRow_18 : decode cX7_holdRow 18 = .ok (.bipush 100, 2) := by decide +kernel
theorem dX7_holdRow_20 : decode cX7_holdRow 20 = .ok (.if_icmp .ge 16, 3) := by decide +kernel
theorem dX7_holdRow_23 : decode cX7_holdRow 23 = .ok (.aload_n 0, 1) := by decide +kernel
theorem dX7_holdRow_24 : decode cX7_holdRow 24 = .ok (.getfield 27, 3) := by decide +kernel
theorem dX7_holdRow_27 : decode cX7_holdRow 27 = .ok (.iload_n 3, 1) := by decide +kernel
theorem dX7_holdRow_28 : decode cX7_holdRow 28 = .ok (.iconst 0, 1) := by decide +kernel
theorem dX7_holdRow_29 : decode cX7_holdRow 29 = .ok (.iastore, 1) := by decide +kernel
theorem dX7_holdRow_30 : decode cX7_holdRow 30 = .ok (.iinc 3 1, 3) := by decide +kernel
theorem dX7_holdRow_33 : decode cX7_holdRow 33 = .ok (.goto (-16), 3) := by decide +kernel
theorem dX7_holdRow_36 : decode cX7_holdRow 36 = .ok (.return_, 1) := by decide +kernel
theorem dX7_hasPlace_0 : decode cX7_hasPlace 0 = .ok (.iload_n 1, 1) := by decide +kernel
theorem dX7_hasPlace_1 : decode cX7_hasPlace 1 = .ok (.ifCond .lt 15, 3) := by decide +kernel
theorem dX7_hasPlace_4 : decode cX7_hasPlace 4 = .ok (.iload_n 1, 1) := by decide +kernel
theorem dX7_hasPlace_5 : decode cX7_hasPlace 5 = .ok (.aload_n 0, 1) := by decide +kernel
theorem dX7_hasPlace_6 : decode cX7_hasPlace 6 = .ok (.getfield 24, 3) := by decide +kernel
theorem dX7_hasPlace_9 : decode cX7_hasPlace 9 = .ok (.if_icmp .ge 7, 3) := by decide +kernel
theorem dX7_hasPlace_12 : decode cX7_hasPlace 12 = .ok (.iconst 1, 1) := by decide +kernel
theorem dX7_hasPlace_13 : decode cX7_hasPlace 13 = .ok (.goto 4, 3) := by decide +kernel
theorem dX7_hasPlace_16 : decode cX7_hasPlace 16 = .ok (.iconst 0, 1) := by decide +kernel
theorem dX7_hasPlace_17 : decode cX7_hasPlace 17 = .ok (.ireturn, 1) := by decide +kernel
theorem dX7_hasRun_0 : decode cX7_hasRun 0 = .ok (.iload_n 1, 1) := by decide +kernel
theorem dX7_hasRun_1 : decode cX7_hasRun 1 = .ok (.ifCond .lt 21, 3) := by decide +kernel
theorem dX7_hasRun_4 : decode cX7_hasRun 4 = .ok (.iload_n 2, 1) := by decide +kernel
theorem dX7_hasRun_5 : decode cX7_hasRun 5 = .ok (.ifCond .lt 17, 3) := by decide +kernel
theorem dX7_hasRun_8 : decode cX7_hasRun 8 = .ok (.iload_n 1, 1) := by decide +kernel
theorem dX7_hasRun_9 : decode cX7_hasRun 9 = .ok (.aload_n 0, 1) := by decide +kernel
theorem dX7_hasRun_10 : decode cX7_hasRun 10 = .ok (.getfield 24, 3) := by decide +kernel
theorem dX7_hasRun_13 : decode cX7_hasRun 13 = .ok (.iload_n 2, 1) := by decide +kernel
theorem dX7_hasRun_14 : decode cX7_hasRun 14 = .ok (.isub, 1) := by decide +kernel
theorem dX7_hasRun_15 : decode cX7_hasRun 15 = .ok (.if_icmp .gt 7, 3) := by decide +kernel
theorem dX7_hasRun_18 : decode cX7_hasRun 18 = .ok (.iconst 1, 1) := by decide +kernel
theorem dX7_hasRun_19 : decode cX7_hasRun 19 = .ok (.goto 4, 3) := by decide +kernel
theorem dX7_hasRun_22 : decode cX7_hasRun 22 = .ok (.iconst 0, 1) := by decide +kernel
theorem dX7_hasRun_23 : decode cX7_hasRun 23 = .ok (.ireturn, 1) := by decide +kernel
theorem dX7_lowestBits_0 : decode cX7_lowestBits 0 = .ok (.aload_n 0, 1) := by decide +kernel
theorem dX7_lowestBits_1 : decode cX7_lowestBits 1 = .ok (.getfield 21, 3) := by decide +kernel
theorem dX7_lowestBits_4 : decode cX7_lowestBits 4 = .ok (.lookupswitch 34 #[(0, 28), (1, 31)], 28) := by decide +kernel
theorem dX7_lowestBits_32 : decode cX7_lowestBits 32 = .ok (.iload_n 1, 1) := by decide +kernel
theorem dX7_lowestBits_33 : decode cX7_lowestBits 33 = .ok (.i2b, 1) := by decide +kernel
theorem dX7_lowestBits_34 : decode cX7_lowestBits 34 = .ok (.ireturn, 1) := by decide +kernel
theorem dX7_lowestBits_35 : decode cX7_lowestBits 35 = .ok (.iload_n 1, 1) := by decide +kernel
theorem dX7_lowestBits_36 : decode cX7_lowestBits 36 = .ok (.i2s, 1) := by decide +kernel
theorem dX7_lowestBits_37 : decode cX7_lowestBits 37 = .ok (.ireturn, 1) := by decide +kernel
theorem dX7_lowestBits_38 : decode cX7_lowestBits 38 = .ok (.iload_n 1, 1) := by decide +kernel
theorem dX7_lowestBits_39 : decode cX7_lowestBits 39 = .ok (.ireturn, 1) := by decide +kernel
set_option maxRecDepth 20000 in
theorem ggX7_isSkipped_X7_leastOfSort : GoodIn wsX7_isSkipped wsX7_leastOfSort := goodIn_r _ [6, 7, 8, 9, 10, 11, 12, 13, 14] (by decide +kernel) (by decide +kernel)
set_option maxRecDepth 20000 in
theorem gX7_isSkipped_X7_leastOfSort : GoodIn wsX7_isSkipped (wsV RX7 31 RX7 yX7_leastOfSort wsX7_leastOfSort) := goodIn_app (goodIn_of _ (by decide +kernel)) ggX7_isSkipped_X7_leastOfSort
theorem dX7_isSkipped_0 : decode cX7_isSkipped 0 = .ok (.aload_n 0, 1) := by decide +kernel
theorem dX7_isSkipped_1 : decode cX7_isSkipped 1 = .ok (.getfield 27, 3) := by decide +kernel
theorem dX7_isSkipped_4 : decode cX7_isSkipped 4 = .ok (.iload_n 1, 1) := by decide +kernel
theorem dX7_isSkipped_5 : decode cX7_isSkipped 5 = .ok (.iaload, 1) := by decide +kernel
theorem dX7_isSkipped_6 : decode cX7_isSkipped 6 = .ok (.aload_n 0, 1) := by decide +kernel
theorem dX7_isSkipped_7 : decode cX7_isSkipped 7 = .ok (.invokevirtual 31, 3) := by decide +kernel
theorem dX7_isSkipped_10 : decode cX7_isSkipped 10 = .ok (.if_icmp .ne 7, 3) := by decide +kernel
theorem dX7_isSkipped_13 : decode cX7_isSkipped 13 = .ok (.iconst 1, 1) := by decide +kernel
theorem dX7_isSkipped_14 : decode cX7_isSkipped 14 = .ok (.goto 4, 3) := by decide +kernel
theorem dX7_isSkipped_17 : decode cX7_isSkipped 17 = .ok (.iconst 0, 1) := by decide +kernel
theorem dX7_isSkipped_18 : decode cX7_isSkipped 18 = .ok (.ireturn, 1) := by decide +kernel
theorem dX7_leastOfSort_0 : decode cX7_leastOfSort 0 = .ok (.aload_n 0, 1) := by decide +kernel
theorem dX7_leastOfSort_1 : decode cX7_leastOfSort 1 = .ok (.getfield 21, 3) := by decide +kernel
theorem dX7_leastOfSort_4 : decode cX7_leastOfSort 4 = .ok (.lookupswitch 35 #[(0, 28), (1, 31)], 28) := by decide +kernel
theorem dX7_leastOfSort_32 : decode cX7_leastOfSort 32 = .ok (.bipush (-128), 2) := by decide +kernel
theorem dX7_leastOfSort_34 : decode cX7_leastOfSort 34 = .ok (.ireturn, 1) := by decide +kernel
theorem dX7_leastOfSort_35 : decode cX7_leastOfSort 35 = .ok (.sipush (-32768), 3) := by decide +kernel
theorem dX7_leastOfSort_38 : decode cX7_leastOfSort 38 = .ok (.ireturn, 1) := by decide +kernel
theorem dX7_leastOfSort_39 : decode cX7_leastOfSort 39 = .ok (.ldc 35, 2) := by decide +kernel
theorem dX7_leastOfSort_41 : decode cX7_leastOfSort 41 = .ok (.ireturn, 1) := by decide +kernel
set_option maxRecDepth 20000 in
theorem ggX7_byteAt_X7_hasPlace : GoodIn wsX7_byteAt wsX7_hasPlace := goodIn_r _ [6, 7, 8, 9, 10, 11, 12, 13] (by decide +kernel) (by decide +kernel)
set_option maxRecDepth 20000 in
theorem gX7_byteAt_X7_hasPlace : GoodIn wsX7_byteAt (wsV RX7 36 RX7 yX7_hasPlace wsX7_hasPlace) := goodIn_app (goodIn_of _ (by decide +kernel)) ggX7_byteAt_X7_hasPlace
theorem dX7_byteAt_0 : decode cX7_byteAt 0 = .ok (.aload_n 0, 1) := by decide +kernel
theorem dX7_byteAt_1 : decode cX7_byteAt 1 = .ok (.iload_n 1, 1) := by decide +kernel
theorem dX7_byteAt_2 : decode cX7_byteAt 2 = .ok (.invokevirtual 36, 3) := by decide +kernel
theorem dX7_byteAt_5 : decode cX7_byteAt 5 = .ok (.ifCond .eq 12, 3) := by decide +kernel
theorem dX7_byteAt_8 : decode cX7_byteAt 8 = .ok (.aload_n 0, 1) := by decide +kernel
theorem dX7_byteAt_9 : decode cX7_byteAt 9 = .ok (.getfield 27, 3) := by decide +kernel
theorem dX7_byteAt_12 : decode cX7_byteAt 12 = .ok (.iload_n 1, 1) := by decide +kernel
theorem dX7_byteAt_13 : decode cX7_byteAt 13 = .ok (.iaload, 1) := by decide +kernel
theorem dX7_byteAt_14 : decode cX7_byteAt 14 = .ok (.goto 4, 3) := by decide +kernel
theorem dX7_byteAt_17 : decode cX7_byteAt 17 = .ok (.iconst (-1), 1) := by decide +kernel
theorem dX7_byteAt_18 : decode cX7_byteAt 18 = .ok (.ireturn, 1) := by decide +kernel
theorem dX8_init_0 : decode cX8_init 0 = .ok (.aload_n 0, 1) := by decide +kernel
theorem dX8_init_1 : decode cX8_init 1 = .ok (.invokespecial 1, 3) := by decide +kernel
theorem dX8_init_4 : decode cX8_init 4 = .ok (.return_, 1) := by decide +kernel
theorem dX8_catches_0 : decode cX8_catches 0 = .ok (.iload_n 2, 1) := by decide +kernel
theorem dX8_catches_1 : decode cX8_catches 1 = .ok (.ireturn, 1) := by decide +kernel
theorem dX8_owes_0 : decode cX8_owes 0 = .ok (.bipush 8, 2) := by decide +kernel
theorem dX8_owes_2 : decode cX8_owes 2 = .ok (.ireturn, 1) := by decide +kernel
theorem dX8_frightens_0 : decode cX8_frightens 0 = .ok (.iconst 0, 1) := by decide +kernel
theorem dX8_frightens_1 : decode cX8_frightens 1 = .ok (.ireturn, 1) := by decide +kernel
theorem dX8_costs_0 : decode cX8_costs 0 = .ok (.iconst 3, 1) := by decide +kernel
theorem dX8_costs_1 : decode cX8_costs 1 = .ok (.ireturn, 1) := by decide +kernel
theorem dX8_fail_0 : decode cX8_fail 0 = .ok (.iload_n 1, 1) := by decide +kernel
theorem dX8_fail_1 : decode cX8_fail 1 = .ok (.ifCond .eq 13, 3) := by decide +kernel
theorem dX8_fail_4 : decode cX8_fail 4 = .ok (.new 9, 3) := by decide +kernel
theorem dX8_fail_7 : decode cX8_fail 7 = .ok (.dup, 1) := by decide +kernel
theorem dX8_fail_8 : decode cX8_fail 8 = .ok (.ldc 11, 2) := by decide +kernel
theorem dX8_fail_10 : decode cX8_fail 10 = .ok (.invokespecial 13, 3) := by decide +kernel
theorem dX8_fail_13 : decode cX8_fail 13 = .ok (.athrow, 1) := by decide +kernel
theorem dX8_fail_14 : decode cX8_fail 14 = .ok (.return_, 1) := by decide +kernel
set_option maxRecDepth 20000 in
theorem ggX9_placeOfWrongForm_X7_byteAt : GoodIn wsX9_placeOfWrongForm wsX7_byteAt := goodIn_r _ [6, 7, 8, 9, 10, 5, 11, 12, 20, 21, 22, 23, 24, 25] (by decide +kernel) (by decide +kernel)
set_option maxRecDepth 20000 in
theorem gX9_placeOfWrongForm_X7_byteAt : GoodIn wsX9_placeOfWrongForm (wsV RX9 15 RX7 yX7_byteAt wsX7_byteAt) := goodIn_app (goodIn_of _ (by decide +kernel)) ggX9_placeOfWrongForm_X7_byteAt
set_option maxRecDepth 20000 in
theorem ggX9_placeOfWrongForm_X9_digitsBehind : GoodIn wsX9_placeOfWrongForm wsX9_digitsBehind := goodIn_r _ [16] (by decide +kernel) (by decide +kernel)
set_option maxRecDepth 20000 in
theorem gX9_placeOfWrongForm_X9_digitsBehind : GoodIn wsX9_placeOfWrongForm (va_wsS RX9 19 yX9_digitsBehind wsX9_digitsBehind) := goodIn_app (goodIn_of _ (by decide +kernel)) ggX9_placeOfWrongForm_X9_digitsBehind
set_option maxRecDepth 20000 in
theorem ggX9_placeOfWrongForm_X9_isDigit : GoodIn wsX9_placeOfWrongForm wsX9_isDigit := goodIn_r _ [19] (by decide +kernel) (by decide +kernel)
set_option maxRecDepth 20000 in
theorem gX9_placeOfWrongForm_X9_isDigit : GoodIn wsX9_placeOfWrongForm (va_wsS RX9 24 yX9_isDigit wsX9_isDigit) := goodIn_app (goodIn_of _ (by decide +kernel)) ggX9_placeOfWrongForm_X9_isDigit
theorem dX9_placeOfWrongForm_0 : decode cX9_placeOfWrongForm 0 = .ok (.iconst 0, 1) := by decide +kernel
theorem dX9_placeOfWrongForm_1 : decode cX9_placeOfWrongForm 1 = .ok (.istore_n 1, 1) := by decide +kernel
theorem dX9_placeOfWrongForm_2 : decode cX9_placeOfWrongForm 2 = .ok (.iload_n 1, 1) := by decide +kernel
theorem dX9_placeOfWrongForm_3 : decode cX9_placeOfWrongForm 3 = .ok (.aload_n 0, 1) := by decide +kernel
theorem dX9_placeOfWrongForm_4 : decode cX9_placeOfWrongForm 4 = .ok (.getfield 9, 3) := by decide +kernel
theorem dX9_placeOfWrongForm_7 : decode cX9_placeOfWrongForm 7 = .ok (.if_icmp .ge 77, 3) := by decide +kernel
theorem dX9_placeOfWrongForm_10 : decode cX9_placeOfWrongForm 10 = .ok (.aload_n 0, 1) := by decide +kernel
theorem dX9_placeOfWrongForm_11 : decode cX9_placeOfWrongForm 11 = .ok (.iload_n 1, 1) := by decide +kernel
theorem dX9_placeOfWrongForm_12 : decode cX9_placeOfWrongForm 12 = .ok (.invokevirtual 15, 3) := by decide +kernel
theorem dX9_placeOfWrongForm_15 : decode cX9_placeOfWrongForm 15 = .ok (.invokestatic 19, 3) := by decide +kernel
theorem dX9_placeOfWrongForm_18 : decode cX9_placeOfWrongForm 18 = .ok (.istore_n 2, 1) := by decide +kernel
theorem dX9_placeOfWrongForm_19 : decode cX9_placeOfWrongForm 19 = .ok (.iload_n 2, 1) := by decide +kernel
theorem dX9_placeOfWrongForm_20 : decode cX9_placeOfWrongForm 20 = .ok (.ifCond .ge 5, 3) := by decide +kernel
theorem dX9_placeOfWrongForm_23 : decode cX9_placeOfWrongForm 23 = .ok (.iload_n 1, 1) := by decide +kernel
theorem dX9_placeOfWrongForm_24 : decode cX9_placeOfWrongForm 24 = .ok (.ireturn, 1) := by decide +kernel
theorem dX9_placeOfWrongForm_25 : decode cX9_placeOfWrongForm 25 = .ok (.iload_n 1, 1) := by decide +kernel
theorem dX9_placeOfWrongForm_26 : decode cX9_placeOfWrongForm 26 = .ok (.iconst 1, 1) := by decide +kernel
theorem dX9_placeOfWrongForm_27 : decode cX9_placeOfWrongForm 27 = .ok (.iadd, 1) := by decide +kernel
theorem dX9_placeOfWrongForm_28 : decode cX9_placeOfWrongForm 28 = .ok (.istore_n 3, 1) := by decide +kernel
theorem dX9_placeOfWrongForm_29 : decode cX9_placeOfWrongForm 29 = .ok (.iload_n 3, 1) := by decide +kernel
theorem dX9_placeOfWrongForm_30 : decode cX9_placeOfWrongForm 30 = .ok (.iload_n 1, 1) := by decide +kernel
theorem dX9_placeOfWrongForm_31 : decode cX9_placeOfWrongForm 31 = .ok (.iload_n 2, 1) := by decide +kernel
theorem dX9_placeOfWrongForm_32 : decode cX9_placeOfWrongForm 32 = .ok (.iadd, 1) := by decide +kernel
theorem dX9_placeOfWrongForm_33 : decode cX9_placeOfWrongForm 33 = .ok (.if_icmp .gt 22, 3) := by decide +kernel
theorem dX9_placeOfWrongForm_36 : decode cX9_placeOfWrongForm 36 = .ok (.aload_n 0, 1) := by decide +kernel
theorem dX9_placeOfWrongForm_37 : decode cX9_placeOfWrongForm 37 = .ok (.iload_n 3, 1) := by decide +kernel
theorem dX9_placeOfWrongForm_38 : decode cX9_placeOfWrongForm 38 = .ok (.invokevirtual 15, 3) := by decide +kernel
theorem dX9_placeOfWrongForm_41 : decode cX9_placeOfWrongForm 41 = .ok (.invokestatic 24, 3) := by decide +kernel
theorem dX9_placeOfWrongForm_44 : decode cX9_placeOfWrongForm 44 = .ok (.ifCond .ne 5, 3) := by decide +kernel
theorem dX9_placeOfWrongForm_47 : decode cX9_placeOfWrongForm 47 = .ok (.iload_n 3, 1) := by decide +kernel
theorem dX9_placeOfWrongForm_48 : decode cX9_placeOfWrongForm 48 = .ok (.ireturn, 1) := by decide +kernel
theorem dX9_placeOfWrongForm_49 : decode cX9_placeOfWrongForm 49 = .ok (.iinc 3 1, 3) := by decide +kernel
theorem dX9_placeOfWrongForm_52 : decode cX9_placeOfWrongForm 52 = .ok (.goto (-23), 3) := by decide +kernel
theorem dX9_placeOfWrongForm_55 : decode cX9_placeOfWrongForm 55 = .ok (.aload_n 0, 1) := by decide +kernel
theorem dX9_placeOfWrongForm_56 : decode cX9_placeOfWrongForm 56 = .ok (.iload_n 1, 1) := by decide +kernel
theorem dX9_placeOfWrongForm_57 : decode cX9_placeOfWrongForm 57 = .ok (.iload_n 2, 1) := by decide +kernel
theorem dX9_placeOfWrongForm_58 : decode cX9_placeOfWrongForm 58 = .ok (.iadd, 1) := by decide +kernel
theorem dX9_placeOfWrongForm_59 : decode cX9_placeOfWrongForm 59 = .ok (.iconst 1, 1) := by decide +kernel
theorem dX9_placeOfWrongForm_60 : decode cX9_placeOfWrongForm 60 = .ok (.iadd, 1) := by decide +kernel
theorem dX9_placeOfWrongForm_61 : decode cX9_placeOfWrongForm 61 = .ok (.invokevirtual 15, 3) := by decide +kernel
theorem dX9_placeOfWrongForm_64 : decode cX9_placeOfWrongForm 64 = .ok (.bipush 59, 2) := by decide +kernel
theorem dX9_placeOfWrongForm_66 : decode cX9_placeOfWrongForm 66 = .ok (.if_icmp .eq 9, 3) := by decide +kernel
theorem dX9_placeOfWrongForm_69 : decode cX9_placeOfWrongForm 69 = .ok (.iload_n 1, 1) := by decide +kernel
theorem dX9_placeOfWrongForm_70 : decode cX9_placeOfWrongForm 70 = .ok (.iload_n 2, 1) := by decide +kernel
theorem dX9_placeOfWrongForm_71 : decode cX9_placeOfWrongForm 71 = .ok (.iadd, 1) := by decide +kernel
theorem dX9_placeOfWrongForm_72 : decode cX9_placeOfWrongForm 72 = .ok (.iconst 1, 1) := by decide +kernel
theorem dX9_placeOfWrongForm_73 : decode cX9_placeOfWrongForm 73 = .ok (.iadd, 1) := by decide +kernel
theorem dX9_placeOfWrongForm_74 : decode cX9_placeOfWrongForm 74 = .ok (.ireturn, 1) := by decide +kernel
theorem dX9_placeOfWrongForm_75 : decode cX9_placeOfWrongForm 75 = .ok (.iload_n 1, 1) := by decide +kernel
theorem dX9_placeOfWrongForm_76 : decode cX9_placeOfWrongForm 76 = .ok (.iload_n 2, 1) := by decide +kernel
theorem dX9_placeOfWrongForm_77 : decode cX9_placeOfWrongForm 77 = .ok (.iconst 2, 1) := by decide +kernel
theorem dX9_placeOfWrongForm_78 : decode cX9_placeOfWrongForm 78 = .ok (.iadd, 1) := by decide +kernel
theorem dX9_placeOfWrongForm_79 : decode cX9_placeOfWrongForm 79 = .ok (.iadd, 1) := by decide +kernel
theorem dX9_placeOfWrongForm_80 : decode cX9_placeOfWrongForm 80 = .ok (.istore_n 1, 1) := by decide +kernel
theorem dX9_placeOfWrongForm_81 : decode cX9_placeOfWrongForm 81 = .ok (.goto (-79), 3) := by decide +kernel
theorem dX9_placeOfWrongForm_84 : decode cX9_placeOfWrongForm 84 = .ok (.aload_n 0, 1) := by decide +kernel
theorem dX9_placeOfWrongForm_85 : decode cX9_placeOfWrongForm 85 = .ok (.getfield 9, 3) := by decide +kernel
theorem dX9_placeOfWrongForm_88 : decode cX9_placeOfWrongForm 88 = .ok (.ifCond .ne 7, 3) := by decide +kernel
theorem dX9_placeOfWrongForm_91 : decode cX9_placeOfWrongForm 91 = .ok (.iconst 0, 1) := by decide +kernel
theorem dX9_placeOfWrongForm_92 : decode cX9_placeOfWrongForm 92 = .ok (.goto 4, 3) := by decide +kernel
theorem dX9_placeOfWrongForm_95 : decode cX9_placeOfWrongForm 95 = .ok (.iconst (-1), 1) := by decide +kernel
theorem dX9_placeOfWrongForm_96 : decode cX9_placeOfWrongForm 96 = .ok (.ireturn, 1) := by decide +kernel
set_option maxRecDepth 20000 in
theorem ggX9_behindStatement_X7_byteAt : GoodIn wsX9_behindStatement wsX7_byteAt := goodIn_r _ [5, 6, 7, 8, 9, 4, 10, 11, 16, 17, 18, 19, 20, 21] (by decide +kernel) (by decide +kernel)
set_option maxRecDepth 20000 in
theorem gX9_behindStatement_X7_byteAt : GoodIn wsX9_behindStatement (wsV RX9 15 RX7 yX7_byteAt wsX7_byteAt) := goodIn_app (goodIn_of _ (by decide +kernel)) ggX9_behindStatement_X7_byteAt
set_option maxRecDepth 20000 in
theorem ggX9_behindStatement_X9_digitsBehind : GoodIn wsX9_behindStatement wsX9_digitsBehind := goodIn_r _ [15] (by decide +kernel) (by decide +kernel)
set_option maxRecDepth 20000 in
theorem gX9_behindStatement_X9_digitsBehind : GoodIn wsX9_behindStatement (va_wsS RX9 19 yX9_digitsBehind wsX9_digitsBehind) := goodIn_app (goodIn_of _ (by decide +kernel)) ggX9_behindStatement_X9_digitsBehind
theorem dX9_behindStatement_0 : decode cX9_behindStatement 0 = .ok (.iload_n 1, 1) := by decide +kernel
theorem dX9_behindStatement_1 : decode cX9_behindStatement 1 = .ok (.aload_n 0, 1) := by decide +kernel
theorem dX9_behindStatement_2 : decode cX9_behindStatement 2 = .ok (.iload_n 1, 1) := by decide +kernel
theorem dX9_behindStatement_3 : decode cX9_behindStatement 3 = .ok (.invokevirtual 15, 3) := by decide +kernel
theorem dX9_behindStatement_6 : decode cX9_behindStatement 6 = .ok (.invokestatic 19, 3) := by decide +kernel
theorem dX9_behindStatement_9 : decode cX9_behindStatement 9 = .ok (.iadd, 1) := by decide +kernel
theorem dX9_behindStatement_10 : decode cX9_behindStatement 10 = .ok (.iconst 2, 1) := by decide +kernel
theorem dX9_behindStatement_11 : decode cX9_behindStatement 11 = .ok (.iadd, 1) := by decide +kernel
theorem dX9_behindStatement_12 : decode cX9_behindStatement 12 = .ok (.ireturn, 1) := by decide +kernel
set_option maxRecDepth 20000 in
theorem ggX9_comeTrue_X7_byteAt : GoodIn wsX9_comeTrue wsX7_byteAt := goodIn_r _ [7, 8, 9, 10, 11, 6, 12, 13, 213, 214, 215, 216, 217, 218] (by decide +kernel) (by decide +kernel)
set_option maxRecDepth 20000 in
theorem gX9_comeTrue_X7_byteAt : GoodIn wsX9_comeTrue (wsV RX9 15 RX7 yX7_byteAt wsX7_byteAt) := goodIn_app (goodIn_of _ (by decide +kernel)) ggX9_comeTrue_X7_byteAt
set_option maxRecDepth 20000 in
theorem ggX9_comeTrue_X9_digit : GoodIn wsX9_comeTrue wsX9_digit := goodIn_r _ [17, 3, 4, 5, 6, 7, 8, 9, 10, 11, 12, 13, 213, 214, 215, 216, 217, 218] (by decide +kernel) (by decide +kernel)
set_option maxRecDepth 20000 in
theorem gX9_comeTrue_X9_digit : GoodIn wsX9_comeTrue (va_wsS RX9 28 yX9_digit wsX9_digit) := goodIn_app (goodIn_of _ (by decide +kernel)) ggX9_comeTrue_X9_digit
set_option maxRecDepth 20000 in
theorem ggX9_comeTrue_X9_number : GoodIn wsX9_comeTrue wsX9_number := goodIn_r _ [20, 14, 15, 16, 17, 3, 4, 5, 6, 7, 8, 9, 10, 11, 12, 13, 213, 214, 215, 216, 217, 218] (by decide +kernel) (by decide +kernel)
set_option maxRecDepth 20000 in
theorem gX9_comeTrue_X9_number : GoodIn wsX9_comeTrue (va_wsS RX9 32 yX9_number wsX9_number) := goodIn_app (goodIn_of _ (by decide +kernel)) ggX9_comeTrue_X9_number
set_option maxRecDepth 20000 in
theorem ggX9_comeTrue_X4_takeIn : GoodIn wsX9_comeTrue wsX4_takeIn := goodIn_r _ [25, 26, 27, 28, 29, 30, 31, 203, 204, 205, 206, 207, 208, 209, 210, 211, 212] (by decide +kernel) (by decide +kernel)
set_option maxRecDepth 20000 in
theorem gX9_comeTrue_X4_takeIn : GoodIn wsX9_comeTrue (wsV RX9 35 RX4 yX4_takeIn wsX4_takeIn) := goodIn_app (goodIn_of _ (by decide +kernel)) ggX9_comeTrue_X4_takeIn
set_option maxRecDepth 20000 in
theorem ggX9_comeTrue_X9_newStore : GoodIn wsX9_comeTrue wsX9_newStore := goodIn_r _ [34, 35, 36, 37, 38, 24, 39, 26, 203, 204, 205, 206, 207, 208, 209, 210, 211, 212] (by decide +kernel) (by decide +kernel)
set_option maxRecDepth 20000 in
theorem gX9_comeTrue_X9_newStore : GoodIn wsX9_comeTrue (va_wsS RX9 47 yX9_newStore wsX9_newStore) := goodIn_app (goodIn_of _ (by decide +kernel)) ggX9_comeTrue_X9_newStore
set_option maxRecDepth 20000 in
theorem ggX9_comeTrue_X9_newWarnings : GoodIn wsX9_comeTrue wsX9_newWarnings := goodIn_r _ [42, 43, 36, 37, 38, 24, 39, 26, 44, 45, 46, 47, 31, 48, 49, 50, 203, 204, 205, 206, 207, 208, 209, 210, 211, 212] (by decide +kernel) (by decide +kernel)
set_option maxRecDepth 20000 in
theorem gX9_comeTrue_X9_newWarnings : GoodIn wsX9_comeTrue (va_wsS RX9 51 yX9_newWarnings wsX9_newWarnings) := goodIn_app (goodIn_of _ (by decide +kernel)) ggX9_comeTrue_X9_newWarnings
set_option maxRecDepth 20000 in
theorem ggX9_comeTrue_X9_loan : GoodIn wsX9_comeTrue wsX9_loan := goodIn_r _ [53, 36, 37, 38, 24, 39, 26, 54, 55, 56, 57, 29, 58, 45, 46, 47, 31, 48, 49, 50, 59, 60, 61, 62, 203, 204, 205, 206, 207, 208, 209, 210, 211, 212] (by decide +kernel) (by decide +kernel)
set_option maxRecDepth 20000 in
theorem gX9_comeTrue_X9_loan : GoodIn wsX9_comeTrue (va_wsS RX9 54 yX9_loan wsX9_loan) := goodIn_app (goodIn_of _ (by decide +kernel)) ggX9_comeTrue_X9_loan
set_option maxRecDepth 20000 in
theorem ggX9_comeTrue_X4_hasDaysLeft : GoodIn wsX9_comeTrue wsX4_hasDaysLeft := goodIn_r _ [66, 67, 203, 204, 205, 206, 207, 208, 209, 210, 211, 212] (by decide +kernel) (by decide +kernel)
set_option maxRecDepth 20000 in
theorem gX9_comeTrue_X4_hasDaysLeft : GoodIn wsX9_comeTrue (wsV RX9 58 RX4 yX4_hasDaysLeft wsX4_hasDaysLeft) := goodIn_app (goodIn_of _ (by decide +kernel)) ggX9_comeTrue_X4_hasDaysLeft
set_option maxRecDepth 20000 in
theorem ggX9_comeTrue_X4_goOn : GoodIn wsX9_comeTrue wsX4_goOn := goodIn_r _ [71, 72, 73, 74, 24, 75, 67, 26, 29, 76, 77, 78, 79, 80, 81, 82, 58, 45, 46, 47, 31, 48, 49, 50, 83, 84, 85, 86, 87, 27, 28, 88, 89, 90, 91, 92, 93, 94, 95, 96, 97, 98, 99, 100, 101, 102, 103, 104, 105, 106, 107, 108, 109, 110, 111, 112, 113, 114, 115, 116, 117, 118, 119, 120, 121, 122, 123, 124, 125, 126, 127, 128, 129, 130, 131, 132, 133, 134, 135, 136, 137, 138, 139, 140, 141, 142, 143, 144, 145, 146, 147, 148, 149, 150, 151, 152, 153, 154, 155, 156, 157, 158, 159, 160, 161, 162, 163, 164, 165, 166, 167, 168, 169, 170, 171, 172, 173, 174, 175, 176, 177, 178, 179, 180, 181, 182, 183, 184, 185, 186, 187, 188, 189, 190, 191, 192, 193, 194, 195, 196, 197, 198, 30, 199, 200, 201, 202, 203, 204, 205, 206, 207, 208, 209, 210, 211, 212] (by decide +kernel) (by decide +kernel)
set_option maxRecDepth 20000 in
theorem gX9_comeTrue_X4_goOn : GoodIn wsX9_comeTrue (wsV RX9 61 RX4 yX4_goOn wsX4_goOn) := goodIn_app (goodIn_of _ (by decide +kernel)) ggX9_comeTrue_X4_goOn
theorem dX9_comeTrue_0 : decode cX9_comeTrue 0 = .ok (.aload_n 0, 1) := by decide +kernel
theorem dX9_comeTrue_1 : decode cX9_comeTrue 1 = .ok (.iload_n 1, 1) := by decide +kernel
theorem dX9_comeTrue_2 : decode cX9_comeTrue 2 = .ok (.invokevirtual 15, 3) := by decide +kernel
theorem dX9_comeTrue_5 : decode cX9_comeTrue 5 = .ok (.tableswitch 276 98 119 #[158, 276, 235, 276, 171, 276, 276, 276, 276, 276, 209, 276, 276, 276, 276, 276, 276, 145, 103, 276, 276, 190], 103) := by decide +kernel
theorem dX9_comeTrue_108 : decode cX9_comeTrue 108 = .ok (.aload_n 0, 1) := by decide +kernel
theorem dX9_comeTrue_109 : decode cX9_comeTrue 109 = .ok (.iload_n 1, 1) := by decide +kernel
theorem dX9_comeTrue_110 : decode cX9_comeTrue 110 = .ok (.iconst 1, 1) := by decide +kernel
theorem dX9_comeTrue_111 : decode cX9_comeTrue 111 = .ok (.iadd, 1) := by decide +kernel
theorem dX9_comeTrue_112 : decode cX9_comeTrue 112 = .ok (.invokestatic 28, 3) := by decide +kernel
theorem dX9_comeTrue_115 : decode cX9_comeTrue 115 = .ok (.istore_n 3, 1) := by decide +kernel
theorem dX9_comeTrue_116 : decode cX9_comeTrue 116 = .ok (.iload_n 3, 1) := by decide +kernel
theorem dX9_comeTrue_117 : decode cX9_comeTrue 117 = .ok (.bipush 8, 2) := by decide +kernel
theorem dX9_comeTrue_119 : decode cX9_comeTrue 119 = .ok (.if_icmp .ge 29, 3) := by decide +kernel
theorem dX9_comeTrue_122 : decode cX9_comeTrue 122 = .ok (.aload_n 2, 1) := by decide +kernel
theorem dX9_comeTrue_123 : decode cX9_comeTrue 123 = .ok (.iload_n 3, 1) := by decide +kernel
theorem dX9_comeTrue_124 : decode cX9_comeTrue 124 = .ok (.aload_n 0, 1) := by decide +kernel
theorem dX9_comeTrue_125 : decode cX9_comeTrue 125 = .ok (.iload_n 1, 1) := by decide +kernel
theorem dX9_comeTrue_126 : decode cX9_comeTrue 126 = .ok (.iconst 2, 1) := by decide +kernel
theorem dX9_comeTrue_127 : decode cX9_comeTrue 127 = .ok (.iadd, 1) := by decide +kernel
theorem dX9_comeTrue_128 : decode cX9_comeTrue 128 = .ok (.invokestatic 28, 3) := by decide +kernel
theorem dX9_comeTrue_131 : decode cX9_comeTrue 131 = .ok (.aload_n 0, 1) := by decide +kernel
theorem dX9_comeTrue_132 : decode cX9_comeTrue 132 = .ok (.iload_n 1, 1) := by decide +kernel
theorem dX9_comeTrue_133 : decode cX9_comeTrue 133 = .ok (.iconst 3, 1) := by decide +kernel
theorem dX9_comeTrue_134 : decode cX9_comeTrue 134 = .ok (.iadd, 1) := by decide +kernel
theorem dX9_comeTrue_135 : decode cX9_comeTrue 135 = .ok (.invokestatic 32, 3) := by decide +kernel
theorem dX9_comeTrue_138 : decode cX9_comeTrue 138 = .ok (.invokevirtual 35, 3) := by decide +kernel
theorem dX9_comeTrue_141 : decode cX9_comeTrue 141 = .ok (.ifCond .eq 7, 3) := by decide +kernel
theorem dX9_comeTrue_144 : decode cX9_comeTrue 144 = .ok (.iconst 1, 1) := by decide +kernel
theorem dX9_comeTrue_145 : decode cX9_comeTrue 145 = .ok (.goto 4, 3) := by decide +kernel
theorem dX9_comeTrue_148 : decode cX9_comeTrue 148 = .ok (.iconst 0, 1) := by decide +kernel
theorem dX9_comeTrue_149 : decode cX9_comeTrue 149 = .ok (.ireturn, 1) := by decide +kernel
theorem dX9_comeTrue_150 : decode cX9_comeTrue 150 = .ok (.aload_n 2, 1) := by decide +kernel
theorem dX9_comeTrue_151 : decode cX9_comeTrue 151 = .ok (.aload_n 0, 1) := by decide +kernel
theorem dX9_comeTrue_152 : decode cX9_comeTrue 152 = .ok (.iload_n 1, 1) := by decide +kernel
theorem dX9_comeTrue_153 : decode cX9_comeTrue 153 = .ok (.iconst 1, 1) := by decide +kernel
theorem dX9_comeTrue_154 : decode cX9_comeTrue 154 = .ok (.iadd, 1) := by decide +kernel
theorem dX9_comeTrue_155 : decode cX9_comeTrue 155 = .ok (.invokestatic 28, 3) := by decide +kernel
theorem dX9_comeTrue_158 : decode cX9_comeTrue 158 = .ok (.putfield 41, 3) := by decide +kernel
theorem dX9_comeTrue_161 : decode cX9_comeTrue 161 = .ok (.iconst 1, 1) := by decide +kernel
theorem dX9_comeTrue_162 : decode cX9_comeTrue 162 = .ok (.ireturn, 1) := by decide +kernel
theorem dX9_comeTrue_163 : decode cX9_comeTrue 163 = .ok (.aload_n 2, 1) := by decide +kernel
theorem dX9_comeTrue_164 : decode cX9_comeTrue 164 = .ok (.aload_n 0, 1) := by decide +kernel
theorem dX9_comeTrue_165 : decode cX9_comeTrue 165 = .ok (.iload_n 1, 1) := by decide +kernel
theorem dX9_comeTrue_166 : decode cX9_comeTrue 166 = .ok (.iconst 1, 1) := by decide +kernel
theorem dX9_comeTrue_167 : decode cX9_comeTrue 167 = .ok (.iadd, 1) := by decide +kernel
theorem dX9_comeTrue_168 : decode cX9_comeTrue 168 = .ok (.invokestatic 32, 3) := by decide +kernel
theorem dX9_comeTrue_171 : decode cX9_comeTrue 171 = .ok (.putfield 44, 3) := by decide +kernel
theorem dX9_comeTrue_174 : decode cX9_comeTrue 174 = .ok (.iconst 1, 1) := by decide +kernel
theorem dX9_comeTrue_175 : decode cX9_comeTrue 175 = .ok (.ireturn, 1) := by decide +kernel
theorem dX9_comeTrue_176 : decode cX9_comeTrue 176 = .ok (.aload_n 2, 1) := by decide +kernel
theorem dX9_comeTrue_177 : decode cX9_comeTrue 177 = .ok (.aload_n 0, 1) := by decide +kernel
theorem dX9_comeTrue_178 : decode cX9_comeTrue 178 = .ok (.iload_n 1, 1) := by decide +kernel
theorem dX9_comeTrue_179 : decode cX9_comeTrue 179 = .ok (.iconst 1, 1) := by decide +kernel
theorem dX9_comeTrue_180 : decode cX9_comeTrue 180 = .ok (.iadd, 1) := by decide +kernel
theorem dX9_comeTrue_181 : decode cX9_comeTrue 181 = .ok (.invokestatic 28, 3) := by decide +kernel
theorem dX9_comeTrue_184 : decode cX9_comeTrue 184 = .ok (.aload_n 0, 1) := by decide +kernel
theorem dX9_comeTrue_185 : decode cX9_comeTrue 185 = .ok (.iload_n 1, 1) := by decide +kernel
theorem dX9_comeTrue_186 : decode cX9_comeTrue 186 = .ok (.iconst 2, 1) := by decide +kernel
theorem dX9_comeTrue_187 : decode cX9_comeTrue 187 = .ok (.iadd, 1) := by decide +kernel
theorem dX9_comeTrue_188 : decode cX9_comeTrue 188 = .ok (.invokestatic 32, 3) := by decide +kernel
theorem dX9_comeTrue_191 : decode cX9_comeTrue 191 = .ok (.invokestatic 47, 3) := by decide +kernel
theorem dX9_comeTrue_194 : decode cX9_comeTrue 194 = .ok (.ireturn, 1) := by decide +kernel
theorem dX9_comeTrue_195 : decode cX9_comeTrue 195 = .ok (.aload_n 2, 1) := by decide +kernel
theorem dX9_comeTrue_196 : decode cX9_comeTrue 196 = .ok (.aload_n 0, 1) := by decide +kernel
theorem dX9_comeTrue_197 : decode cX9_comeTrue 197 = .ok (.iload_n 1, 1) := by decide +kernel
theorem dX9_comeTrue_198 : decode cX9_comeTrue 198 = .ok (.iconst 1, 1) := by decide +kernel
theorem dX9_comeTrue_199 : decode cX9_comeTrue 199 = .ok (.iadd, 1) := by decide +kernel
theorem dX9_comeTrue_200 : decode cX9_comeTrue 200 = .ok (.invokestatic 28, 3) := by decide +kernel
theorem dX9_comeTrue_203 : decode cX9_comeTrue 203 = .ok (.aload_n 0, 1) := by decide +kernel
theorem dX9_comeTrue_204 : decode cX9_comeTrue 204 = .ok (.iload_n 1, 1) := by decide +kernel
theorem dX9_comeTrue_205 : decode cX9_comeTrue 205 = .ok (.iconst 2, 1) := by decide +kernel
theorem dX9_comeTrue_206 : decode cX9_comeTrue 206 = .ok (.iadd, 1) := by decide +kernel
theorem dX9_comeTrue_207 : decode cX9_comeTrue 207 = .ok (.invokestatic 28, 3) := by decide +kernel
theorem dX9_comeTrue_210 : decode cX9_comeTrue 210 = .ok (.invokestatic 51, 3) := by decide +kernel
theorem dX9_comeTrue_213 : decode cX9_comeTrue 213 = .ok (.ireturn, 1) := by decide +kernel
theorem dX9_comeTrue_214 : decode cX9_comeTrue 214 = .ok (.aload_n 2, 1) := by decide +kernel
theorem dX9_comeTrue_215 : decode cX9_comeTrue 215 = .ok (.aload_n 0, 1) := by decide +kernel
theorem dX9_comeTrue_216 : decode cX9_comeTrue 216 = .ok (.iload_n 1, 1) := by decide +kernel
theorem dX9_comeTrue_217 : decode cX9_comeTrue 217 = .ok (.iconst 1, 1) := by decide +kernel
theorem dX9_comeTrue_218 : decode cX9_comeTrue 218 = .ok (.iadd, 1) := by decide +kernel
theorem dX9_comeTrue_219 : decode cX9_comeTrue 219 = .ok (.invokestatic 28, 3) := by decide +kernel
theorem dX9_comeTrue_222 : decode cX9_comeTrue 222 = .ok (.aload_n 0, 1) := by decide +kernel
theorem dX9_comeTrue_223 : decode cX9_comeTrue 223 = .ok (.iload_n 1, 1) := by decide +kernel
theorem dX9_comeTrue_224 : decode cX9_comeTrue 224 = .ok (.iconst 2, 1) := by decide +kernel
theorem dX9_comeTrue_225 : decode cX9_comeTrue 225 = .ok (.iadd, 1) := by decide +kernel
theorem dX9_comeTrue_226 : decode cX9_comeTrue 226 = .ok (.invokestatic 28, 3) := by decide +kernel
theorem dX9_comeTrue_229 : decode cX9_comeTrue 229 = .ok (.aload_n 0, 1) := by decide +kernel
theorem dX9_comeTrue_230 : decode cX9_comeTrue 230 = .ok (.iload_n 1, 1) := by decide +kernel
theorem dX9_comeTrue_231 : decode cX9_comeTrue 231 = .ok (.iconst 3, 1) := by decide +kernel
theorem dX9_comeTrue_232 : decode cX9_comeTrue 232 = .ok (.iadd, 1) := by decide +kernel
theorem dX9_comeTrue_233 : decode cX9_comeTrue 233 = .ok (.invokestatic 32, 3) := by decide +kernel
theorem dX9_comeTrue_236 : decode cX9_comeTrue 236 = .ok (.invokestatic 54, 3) := by decide +kernel
theorem dX9_comeTrue_239 : decode cX9_comeTrue 239 = .ok (.ireturn, 1) := by decide +kernel
theorem dX9_comeTrue_240 : decode cX9_comeTrue 240 = .ok (.aload_n 0, 1) := by decide +kernel
theorem dX9_comeTrue_241 : decode cX9_comeTrue 241 = .ok (.iload_n 1, 1) := by decide +kernel
theorem dX9_comeTrue_242 : decode cX9_comeTrue 242 = .ok (.iconst 1, 1) := by decide +kernel
theorem dX9_comeTrue_243 : decode cX9_comeTrue 243 = .ok (.iadd, 1) := by decide +kernel
theorem dX9_comeTrue_244 : decode cX9_comeTrue 244 = .ok (.invokestatic 32, 3) := by decide +kernel
theorem dX9_comeTrue_247 : decode cX9_comeTrue 247 = .ok (.istore 4, 2) := by decide +kernel
theorem dX9_comeTrue_249 : decode cX9_comeTrue 249 = .ok (.iload 4, 2) := by decide +kernel
theorem dX9_comeTrue_251 : decode cX9_comeTrue 251 = .ok (.iconst 1, 1) := by decide +kernel
theorem dX9_comeTrue_252 : decode cX9_comeTrue 252 = .ok (.if_icmp .lt 19, 3) := by decide +kernel
theorem dX9_comeTrue_255 : decode cX9_comeTrue 255 = .ok (.iload 4, 2) := by decide +kernel
theorem dX9_comeTrue_257 : decode cX9_comeTrue 257 = .ok (.bipush 60, 2) := by decide +kernel
theorem dX9_comeTrue_259 : decode cX9_comeTrue 259 = .ok (.if_icmp .gt 12, 3) := by decide +kernel
theorem dX9_comeTrue_262 : decode cX9_comeTrue 262 = .ok (.aload_n 2, 1) := by decide +kernel
theorem dX9_comeTrue_263 : decode cX9_comeTrue 263 = .ok (.iload 4, 2) := by decide +kernel
theorem dX9_comeTrue_265 : decode cX9_comeTrue 265 = .ok (.invokevirtual 58, 3) := by decide +kernel
theorem dX9_comeTrue_268 : decode cX9_comeTrue 268 = .ok (.ifCond .ne 5, 3) := by decide +kernel
theorem dX9_comeTrue_271 : decode cX9_comeTrue 271 = .ok (.iconst 0, 1) := by decide +kernel
theorem dX9_comeTrue_272 : decode cX9_comeTrue 272 = .ok (.ireturn, 1) := by decide +kernel
theorem dX9_comeTrue_273 : decode cX9_comeTrue 273 = .ok (.aload_n 2, 1) := by decide +kernel
theorem dX9_comeTrue_274 : decode cX9_comeTrue 274 = .ok (.iload 4, 2) := by decide +kernel
theorem dX9_comeTrue_276 : decode cX9_comeTrue 276 = .ok (.invokevirtual 61, 3) := by decide +kernel
theorem dX9_comeTrue_279 : decode cX9_comeTrue 279 = .ok (.iconst 1, 1) := by decide +kernel
theorem dX9_comeTrue_280 : decode cX9_comeTrue 280 = .ok (.ireturn, 1) := by decide +kernel
theorem dX9_comeTrue_281 : decode cX9_comeTrue 281 = .ok (.iconst 0, 1) := by decide +kernel
theorem dX9_comeTrue_282 : decode cX9_comeTrue 282 = .ok (.ireturn, 1) := by decide +kernel
set_option maxRecDepth 20000 in
theorem ggX9_newStore_X4_knows : GoodIn wsX9_newStore wsX4_knows := goodIn_r _ [6, 7, 8, 9, 10, 11, 12, 13, 14, 15, 16, 17] (by decide +kernel) (by decide +kernel)
set_option maxRecDepth 20000 in
theorem gX9_newStore_X4_knows : GoodIn wsX9_newStore (wsV RX9 65 RX4 yX4_knows wsX4_knows) := goodIn_app (goodIn_of _ (by decide +kernel)) ggX9_newStore_X4_knows
theorem dX9_newStore_0 : decode cX9_newStore 0 = .ok (.aload_n 0, 1) := by decide +kernel
theorem dX9_newStore_1 : decode cX9_newStore 1 = .ok (.iload_n 1, 1) := by decide +kernel
theorem dX9_newStore_2 : decode cX9_newStore 2 = .ok (.invokevirtual 65, 3) := by decide +kernel
theorem dX9_newStore_5 : decode cX9_newStore 5 = .ok (.ifCond .ne 5, 3) := by decide +kernel
theorem dX9_newStore_8 : decode cX9_newStore 8 = .ok (.iconst 0, 1) := by decide +kernel
theorem dX9_newStore_9 : decode cX9_newStore 9 = .ok (.ireturn, 1) := by decide +kernel
theorem dX9_newStore_10 : decode cX9_newStore 10 = .ok (.aload_n 0, 1) := by decide +kernel
theorem dX9_newStore_11 : decode cX9_newStore 11 = .ok (.getfield 68, 3) := by decide +kernel
theorem dX9_newStore_14 : decode cX9_newStore 14 = .ok (.iload_n 1, 1) := by decide +kernel
theorem dX9_newStore_15 : decode cX9_newStore 15 = .ok (.iload_n 2, 1) := by decide +kernel
theorem dX9_newStore_16 : decode cX9_newStore 16 = .ok (.iastore, 1) := by decide +kernel
theorem dX9_newStore_17 : decode cX9_newStore 17 = .ok (.iconst 1, 1) := by decide +kernel
theorem dX9_newStore_18 : decode cX9_newStore 18 = .ok (.ireturn, 1) := by decide +kernel
set_option maxRecDepth 20000 in
theorem ggX9_newWarnings_X4_knows : GoodIn wsX9_newWarnings wsX4_knows := goodIn_r _ [6, 7, 16, 17, 18, 19, 20, 21, 22, 23, 24, 25] (by decide +kernel) (by decide +kernel)
set_option maxRecDepth 20000 in
theorem gX9_newWarnings_X4_knows : GoodIn wsX9_newWarnings (wsV RX9 65 RX4 yX4_knows wsX4_knows) := goodIn_app (goodIn_of _ (by decide +kernel)) ggX9_newWarnings_X4_knows
set_option maxRecDepth 20000 in
theorem ggX9_newWarnings_X4_isThere : GoodIn wsX9_newWarnings wsX4_isThere := goodIn_r _ [11, 12, 13, 14, 15, 16, 17, 18, 19, 20, 21, 22, 23, 24, 25] (by decide +kernel) (by decide +kernel)
set_option maxRecDepth 20000 in
theorem gX9_newWarnings_X4_isThere : GoodIn wsX9_newWarnings (wsV RX9 72 RX4 yX4_isThere wsX4_isThere) := goodIn_app (goodIn_of _ (by decide +kernel)) ggX9_newWarnings_X4_isThere
theorem dX9_newWarnings_0 : decode cX9_newWarnings 0 = .ok (.aload_n 0, 1) := by decide +kernel
theorem dX9_newWarnings_1 : decode cX9_newWarnings 1 = .ok (.iload_n 1, 1) := by decide +kernel
theorem dX9_newWarnings_2 : decode cX9_newWarnings 2 = .ok (.invokevirtual 65, 3) := by decide +kernel
theorem dX9_newWarnings_5 : decode cX9_newWarnings 5 = .ok (.ifCond .eq 16, 3) := by decide +kernel
theorem dX9_newWarnings_8 : decode cX9_newWarnings 8 = .ok (.aload_n 0, 1) := by decide +kernel
theorem dX9_newWarnings_9 : decode cX9_newWarnings 9 = .ok (.iload_n 1, 1) := by decide +kernel
theorem dX9_newWarnings_10 : decode cX9_newWarnings 10 = .ok (.invokevirtual 72, 3) := by decide +kernel
theorem dX9_newWarnings_13 : decode cX9_newWarnings 13 = .ok (.ifCond .eq 8, 3) := by decide +kernel
theorem dX9_newWarnings_16 : decode cX9_newWarnings 16 = .ok (.iload_n 2, 1) := by decide +kernel
theorem dX9_newWarnings_17 : decode cX9_newWarnings 17 = .ok (.iconst 2, 1) := by decide +kernel
theorem dX9_newWarnings_18 : decode cX9_newWarnings 18 = .ok (.if_icmp .lt 5, 3) := by decide +kernel
theorem dX9_newWarnings_21 : decode cX9_newWarnings 21 = .ok (.iconst 0, 1) := by decide +kernel
theorem dX9_newWarnings_22 : decode cX9_newWarnings 22 = .ok (.ireturn, 1) := by decide +kernel
theorem dX9_newWarnings_23 : decode cX9_newWarnings 23 = .ok (.aload_n 0, 1) := by decide +kernel
theorem dX9_newWarnings_24 : decode cX9_newWarnings 24 = .ok (.getfield 75, 3) := by decide +kernel
theorem dX9_newWarnings_27 : decode cX9_newWarnings 27 = .ok (.iload_n 1, 1) := by decide +kernel
theorem dX9_newWarnings_28 : decode cX9_newWarnings 28 = .ok (.iload_n 2, 1) := by decide +kernel
theorem dX9_newWarnings_29 : decode cX9_newWarnings 29 = .ok (.iastore, 1) := by decide +kernel
theorem dX9_newWarnings_30 : decode cX9_newWarnings 30 = .ok (.iconst 1, 1) := by decide +kernel
theorem dX9_newWarnings_31 : decode cX9_newWarnings 31 = .ok (.ireturn, 1) := by decide +kernel
set_option maxRecDepth 20000 in
theorem ggX9_loan_X4_knows : GoodIn wsX9_loan wsX4_knows := goodIn_r _ [5, 6, 24, 25, 26, 27, 28, 29, 30, 31, 32, 33] (by decide +kernel) (by decide +kernel)
set_option maxRecDepth 20000 in
theorem gX9_loan_X4_knows : GoodIn wsX9_loan (wsV RX9 65 RX4 yX4_knows wsX4_knows) := goodIn_app (goodIn_of _ (by decide +kernel)) ggX9_loan_X4_knows
set_option maxRecDepth 20000 in
theorem ggX9_loan_X4_canLend : GoodIn wsX9_loan wsX4_canLend := goodIn_r _ [10, 11, 12, 13, 14, 4, 15, 16, 17, 18, 19, 24, 25, 26, 27, 28, 29, 30, 31, 32, 33] (by decide +kernel) (by decide +kernel)
set_option maxRecDepth 20000 in
theorem gX9_loan_X4_canLend : GoodIn wsX9_loan (wsV RX9 78 RX4 yX4_canLend wsX4_canLend) := goodIn_app (goodIn_of _ (by decide +kernel)) ggX9_loan_X4_canLend
set_option maxRecDepth 20000 in
theorem ggX9_loan_X4_handOver : GoodIn wsX9_loan wsX4_handOver := goodIn_r _ [23, 11, 24, 25, 26, 27, 28, 29, 30, 31, 32, 33] (by decide +kernel) (by decide +kernel)
set_option maxRecDepth 20000 in
theorem gX9_loan_X4_handOver : GoodIn wsX9_loan (wsV RX9 81 RX4 yX4_handOver wsX4_handOver) := goodIn_app (goodIn_of _ (by decide +kernel)) ggX9_loan_X4_handOver
theorem dX9_loan_0 : decode cX9_loan 0 = .ok (.aload_n 0, 1) := by decide +kernel
theorem dX9_loan_1 : decode cX9_loan 1 = .ok (.iload_n 1, 1) := by decide +kernel
theorem dX9_loan_2 : decode cX9_loan 2 = .ok (.invokevirtual 65, 3) := by decide +kernel
theorem dX9_loan_5 : decode cX9_loan 5 = .ok (.ifCond .eq 26, 3) := by decide +kernel
theorem dX9_loan_8 : decode cX9_loan 8 = .ok (.aload_n 0, 1) := by decide +kernel
theorem dX9_loan_9 : decode cX9_loan 9 = .ok (.iload_n 2, 1) := by decide +kernel
theorem dX9_loan_10 : decode cX9_loan 10 = .ok (.invokevirtual 65, 3) := by decide +kernel
theorem dX9_loan_13 : decode cX9_loan 13 = .ok (.ifCond .eq 18, 3) := by decide +kernel
theorem dX9_loan_16 : decode cX9_loan 16 = .ok (.iload_n 1, 1) := by decide +kernel
theorem dX9_loan_17 : decode cX9_loan 17 = .ok (.iload_n 2, 1) := by decide +kernel
theorem dX9_loan_18 : decode cX9_loan 18 = .ok (.if_icmp .eq 13, 3) := by decide +kernel
theorem dX9_loan_21 : decode cX9_loan 21 = .ok (.aload_n 0, 1) := by decide +kernel
theorem dX9_loan_22 : decode cX9_loan 22 = .ok (.iload_n 1, 1) := by decide +kernel
theorem dX9_loan_23 : decode cX9_loan 23 = .ok (.iload_n 2, 1) := by decide +kernel
theorem dX9_loan_24 : decode cX9_loan 24 = .ok (.iload_n 3, 1) := by decide +kernel
theorem dX9_loan_25 : decode cX9_loan 25 = .ok (.invokevirtual 78, 3) := by decide +kernel
theorem dX9_loan_28 : decode cX9_loan 28 = .ok (.ifCond .ne 5, 3) := by decide +kernel
theorem dX9_loan_31 : decode cX9_loan 31 = .ok (.iconst 0, 1) := by decide +kernel
theorem dX9_loan_32 : decode cX9_loan 32 = .ok (.ireturn, 1) := by decide +kernel
theorem dX9_loan_33 : decode cX9_loan 33 = .ok (.aload_n 0, 1) := by decide +kernel
theorem dX9_loan_34 : decode cX9_loan 34 = .ok (.iload_n 1, 1) := by decide +kernel
theorem dX9_loan_35 : decode cX9_loan 35 = .ok (.iload_n 2, 1) := by decide +kernel
theorem dX9_loan_36 : decode cX9_loan 36 = .ok (.iload_n 3, 1) := by decide +kernel
theorem dX9_loan_37 : decode cX9_loan 37 = .ok (.invokevirtual 81, 3) := by decide +kernel
theorem dX9_loan_40 : decode cX9_loan 40 = .ok (.iconst 1, 1) := by decide +kernel
theorem dX9_loan_41 : decode cX9_loan 41 = .ok (.ireturn, 1) := by decide +kernel
theorem dX9_digitsBehind_0 : decode cX9_digitsBehind 0 = .ok (.iload_n 0, 1) := by decide +kernel
theorem dX9_digitsBehind_1 : decode cX9_digitsBehind 1 = .ok (.tableswitch 117 98 119 #[107, 117, 115, 117, 109, 117, 117, 117, 117, 117, 113, 117, 117, 117, 117, 117, 117, 105, 103, 117, 117, 111], 103) := by decide +kernel
theorem dX9_digitsBehind_104 : decode cX9_digitsBehind 104 = .ok (.iconst 4, 1) := by decide +kernel
theorem dX9_digitsBehind_105 : decode cX9_digitsBehind 105 = .ok (.ireturn, 1) := by decide +kernel
theorem dX9_digitsBehind_106 : decode cX9_digitsBehind 106 = .ok (.iconst 1, 1) := by decide +kernel
theorem dX9_digitsBehind_107 : decode cX9_digitsBehind 107 = .ok (.ireturn, 1) := by decide +kernel
theorem dX9_digitsBehind_108 : decode cX9_digitsBehind 108 = .ok (.iconst 2, 1) := by decide +kernel
theorem dX9_digitsBehind_109 : decode cX9_digitsBehind 109 = .ok (.ireturn, 1) := by decide +kernel
theorem dX9_digitsBehind_110 : decode cX9_digitsBehind 110 = .ok (.iconst 3, 1) := by decide +kernel
theorem dX9_digitsBehind_111 : decode cX9_digitsBehind 111 = .ok (.ireturn, 1) := by decide +kernel
theorem dX9_digitsBehind_112 : decode cX9_digitsBehind 112 = .ok (.iconst 2, 1) := by decide +kernel
theorem dX9_digitsBehind_113 : decode cX9_digitsBehind 113 = .ok (.ireturn, 1) := by decide +kernel
theorem dX9_digitsBehind_114 : decode cX9_digitsBehind 114 = .ok (.iconst 4, 1) := by decide +kernel
theorem dX9_digitsBehind_115 : decode cX9_digitsBehind 115 = .ok (.ireturn, 1) := by decide +kernel
theorem dX9_digitsBehind_116 : decode cX9_digitsBehind 116 = .ok (.iconst 2, 1) := by decide +kernel
theorem dX9_digitsBehind_117 : decode cX9_digitsBehind 117 = .ok (.ireturn, 1) := by decide +kernel
theorem dX9_digitsBehind_118 : decode cX9_digitsBehind 118 = .ok (.iconst (-1), 1) := by decide +kernel
theorem dX9_digitsBehind_119 : decode cX9_digitsBehind 119 = .ok (.ireturn, 1) := by decide +kernel
theorem dX9_isDigit_0 : decode cX9_isDigit 0 = .ok (.iload_n 0, 1) := by decide +kernel
theorem dX9_isDigit_1 : decode cX9_isDigit 1 = .ok (.bipush 48, 2) := by decide +kernel
theorem dX9_isDigit_3 : decode cX9_isDigit 3 = .ok (.if_icmp .lt 13, 3) := by decide +kernel
theorem dX9_isDigit_6 : decode cX9_isDigit 6 = .ok (.iload_n 0, 1) := by decide +kernel
theorem dX9_isDigit_7 : decode cX9_isDigit 7 = .ok (.bipush 57, 2) := by decide +kernel
theorem dX9_isDigit_9 : decode cX9_isDigit 9 = .ok (.if_icmp .gt 7, 3) := by decide +kernel
theorem dX9_isDigit_12 : decode cX9_isDigit 12 = .ok (.iconst 1, 1) := by decide +kernel
theorem dX9_isDigit_13 : decode cX9_isDigit 13 = .ok (.goto 4, 3) := by decide +kernel
theorem dX9_isDigit_16 : decode cX9_isDigit 16 = .ok (.iconst 0, 1) := by decide +kernel
theorem dX9_isDigit_17 : decode cX9_isDigit 17 = .ok (.ireturn, 1) := by decide +kernel
set_option maxRecDepth 20000 in
theorem ggX9_digit_X7_byteAt : GoodIn wsX9_digit wsX7_byteAt := goodIn_r _ [5, 6, 7, 8, 9, 4, 10, 11, 12, 13, 14, 15, 16, 17] (by decide +kernel) (by decide +kernel)
set_option maxRecDepth 20000 in
theorem gX9_digit_X7_byteAt : GoodIn wsX9_digit (wsV RX9 15 RX7 yX7_byteAt wsX7_byteAt) := goodIn_app (goodIn_of _ (by decide +kernel)) ggX9_digit_X7_byteAt
theorem dX9_digit_0 : decode cX9_digit 0 = .ok (.aload_n 0, 1) := by decide +kernel
theorem dX9_digit_1 : decode cX9_digit 1 = .ok (.iload_n 1, 1) := by decide +kernel
theorem dX9_digit_2 : decode cX9_digit 2 = .ok (.invokevirtual 15, 3) := by decide +kernel
theorem dX9_digit_5 : decode cX9_digit 5 = .ok (.bipush 48, 2) := by decide +kernel
theorem dX9_digit_7 : decode cX9_digit 7 = .ok (.isub, 1) := by decide +kernel
theorem dX9_digit_8 : decode cX9_digit 8 = .ok (.ireturn, 1) := by decide +kernel
set_option maxRecDepth 20000 in
theorem ggX9_number_X9_digit : GoodIn wsX9_number wsX9_digit := goodIn_r _ [4, 5, 6, 7, 8, 9, 10, 11, 12, 13, 14, 15, 16, 17, 18, 19, 20, 21] (by decide +kernel) (by decide +kernel)
set_option maxRecDepth 20000 in
theorem gX9_number_X9_digit : GoodIn wsX9_number (va_wsS RX9 28 yX9_digit wsX9_digit) := goodIn_app (goodIn_of _ (by decide +kernel)) ggX9_number_X9_digit
theorem dX9_number_0 : decode cX9_number 0 = .ok (.bipush 10, 2) := by decide +kernel
theorem dX9_number_2 : decode cX9_number 2 = .ok (.aload_n 0, 1) := by decide +kernel
theorem dX9_number_3 : decode cX9_number 3 = .ok (.iload_n 1, 1) := by decide +kernel
theorem dX9_number_4 : decode cX9_number 4 = .ok (.invokestatic 28, 3) := by decide +kernel
theorem dX9_number_7 : decode cX9_number 7 = .ok (.imul, 1) := by decide +kernel
theorem dX9_number_8 : decode cX9_number 8 = .ok (.aload_n 0, 1) := by decide +kernel
theorem dX9_number_9 : decode cX9_number 9 = .ok (.iload_n 1, 1) := by decide +kernel
theorem dX9_number_10 : decode cX9_number 10 = .ok (.iconst 1, 1) := by decide +kernel
theorem dX9_number_11 : decode cX9_number 11 = .ok (.iadd, 1) := by decide +kernel
theorem dX9_number_12 : decode cX9_number 12 = .ok (.invokestatic 28, 3) := by decide +kernel
theorem dX9_number_15 : decode cX9_number 15 = .ok (.iadd, 1) := by decide +kernel
theorem dX9_number_16 : decode cX9_number 16 = .ok (.ireturn, 1) := by decide +kernel
set_option maxRecDepth 20000 in
theorem ggX10_init_X1_init : GoodIn wsX10_init wsX1_init := goodIn_r _ [3, 4, 5, 6, 7, 8, 9] (by decide +kernel) (by decide +kernel)
set_option maxRecDepth 20000 in
theorem gX10_init_X1_init_n1 : GoodIn wsX10_init (wsX1_init) := ggX10_init_X1_init
theorem dX10_init_0 : decode cX10_init 0 = .ok (.aload_n 0, 1) := by decide +kernel
theorem dX10_init_1 : decode cX10_init 1 = .ok (.invokespecial 1, 3) := by decide +kernel
theorem dX10_init_4 : decode cX10_init 4 = .ok (.return_, 1) := by decide +kernel
set_option maxRecDepth 20000 in
theorem ggX10_catches_X1_catches : GoodIn wsX10_catches wsX1_catches := goodIn_r _ [6, 7, 8, 9, 10, 11, 12] (by decide +kernel) (by decide +kernel)
set_option maxRecDepth 20000 in
theorem gX10_catches_X1_catches_s7 : GoodIn wsX10_catches (va_wsSU RX10 7 yX1_catches wsX1_catches) := goodIn_app (goodIn_of _ (by decide +kernel)) ggX10_catches_X1_catches
theorem dX10_catches_0 : decode cX10_catches 0 = .ok (.iload_n 3, 1) := by decide +kernel
theorem dX10_catches_1 : decode cX10_catches 1 = .ok (.iconst 3, 1) := by decide +kernel
theorem dX10_catches_2 : decode cX10_catches 2 = .ok (.irem, 1) := by decide +kernel
theorem dX10_catches_3 : decode cX10_catches 3 = .ok (.ifCond .ne 15, 3) := by decide +kernel
theorem dX10_catches_6 : decode cX10_catches 6 = .ok (.iconst 2, 1) := by decide +kernel
theorem dX10_catches_7 : decode cX10_catches 7 = .ok (.aload_n 0, 1) := by decide +kernel
theorem dX10_catches_8 : decode cX10_catches 8 = .ok (.iload_n 1, 1) := by decide +kernel
theorem dX10_catches_9 : decode cX10_catches 9 = .ok (.iload_n 2, 1) := by decide +kernel
theorem dX10_catches_10 : decode cX10_catches 10 = .ok (.iload_n 3, 1) := by decide +kernel
theorem dX10_catches_11 : decode cX10_catches 11 = .ok (.invokespecial 7, 3) := by decide +kernel
theorem dX10_catches_14 : decode cX10_catches 14 = .ok (.imul, 1) := by decide +kernel
theorem dX10_catches_15 : decode cX10_catches 15 = .ok (.goto 4, 3) := by decide +kernel
theorem dX10_catches_18 : decode cX10_catches 18 = .ok (.iconst 0, 1) := by decide +kernel
theorem dX10_catches_19 : decode cX10_catches 19 = .ok (.ireturn, 1) := by decide +kernel
set_option maxRecDepth 20000 in
theorem ggX10_frightens_X1_frightens : GoodIn wsX10_frightens wsX1_frightens := goodIn_r _ [6] (by decide +kernel) (by decide +kernel)
set_option maxRecDepth 20000 in
theorem gX10_frightens_X1_frightens_s11 : GoodIn wsX10_frightens (va_wsSU RX10 11 yX1_frightens wsX1_frightens) := goodIn_app (goodIn_of _ (by decide +kernel)) ggX10_frightens_X1_frightens
theorem dX10_frightens_0 : decode cX10_frightens 0 = .ok (.aload_n 0, 1) := by decide +kernel
theorem dX10_frightens_1 : decode cX10_frightens 1 = .ok (.invokespecial 11, 3) := by decide +kernel
theorem dX10_frightens_4 : decode cX10_frightens 4 = .ok (.iconst 1, 1) := by decide +kernel
theorem dX10_frightens_5 : decode cX10_frightens 5 = .ok (.iadd, 1) := by decide +kernel
theorem dX10_frightens_6 : decode cX10_frightens 6 = .ok (.ireturn, 1) := by decide +kernel
set_option maxRecDepth 20000 in
theorem ggX10_costs_X1_costs : GoodIn wsX10_costs wsX1_costs := goodIn_r _ [6, 7, 8, 9, 10, 11, 12] (by decide +kernel) (by decide +kernel)
set_option maxRecDepth 20000 in
theorem gX10_costs_X1_costs_s15 : GoodIn wsX10_costs (va_wsSU RX10 15 yX1_costs wsX1_costs) := goodIn_app (goodIn_of _ (by decide +kernel)) ggX10_costs_X1_costs
theorem dX10_costs_0 : decode cX10_costs 0 = .ok (.iconst 2, 1) := by decide +kernel
theorem dX10_costs_1 : decode cX10_costs 1 = .ok (.aload_n 0, 1) := by decide +kernel
theorem dX10_costs_2 : decode cX10_costs 2 = .ok (.iload_n 1, 1) := by decide +kernel
theorem dX10_costs_3 : decode cX10_costs 3 = .ok (.invokespecial 15, 3) := by decide +kernel
theorem dX10_costs_6 : decode cX10_costs 6 = .ok (.imul, 1) := by decide +kernel
theorem dX10_costs_7 : decode cX10_costs 7 = .ok (.ireturn, 1) := by decide +kernel
set_option maxRecDepth 20000 in
theorem ggX11_init_X4_init : GoodIn wsX11_init wsX4_init := goodIn_r _ [18, 19, 2, 3, 20, 21, 22, 23, 24, 25, 26, 27, 28, 29, 30, 31, 32, 33, 34, 35, 36, 37, 38, 39, 40, 41, 42, 43, 44, 14, 45, 46, 47, 48, 49, 50, 51, 52, 53, 54, 55, 56, 57, 58, 59, 60, 61, 62, 63, 64, 65, 66, 67, 68, 69, 70, 80, 81, 82, 83, 84, 85, 86, 87, 88, 89] (by decide +kernel) (by decide +kernel)
set_option maxRecDepth 20000 in
theorem gX11_init_X4_init_n9 : GoodIn wsX11_init (wsX4_init) := ggX11_init_X4_init
set_option maxRecDepth 20000 in
theorem ggX11_init_X7_init : GoodIn wsX11_init wsX7_init := goodIn_r _ [72, 73, 2, 3, 74, 75, 76, 77, 78, 14, 79, 97, 98, 99, 100, 101, 102] (by decide +kernel) (by decide +kernel)
set_option maxRecDepth 20000 in
theorem gX11_init_X7_init_n28 : GoodIn wsX11_init (wsX7_init) := ggX11_init_X7_init
theorem dX11_init_0 : decode cX11_init 0 = .ok (.aload_n 0, 1) := by decide +kernel
theorem dX11_init_1 : decode cX11_init 1 = .ok (.invokespecial 1, 3) := by decide +kernel
theorem dX11_init_4 : decode cX11_init 4 = .ok (.aload_n 0, 1) := by decide +kernel
theorem dX11_init_5 : decode cX11_init 5 = .ok (.new 7, 3) := by decide +kernel
theorem dX11_init_8 : decode cX11_init 8 = .ok (.dup, 1) := by decide +kernel
theorem dX11_init_9 : decode cX11_init 9 = .ok (.invokespecial 9, 3) := by decide +kernel
theorem dX11_init_12 : decode cX11_init 12 = .ok (.putfield 10, 3) := by decide +kernel
theorem dX11_init_15 : decode cX11_init 15 = .ok (.aload_n 0, 1) := by decide +kernel
theorem dX11_init_16 : decode cX11_init 16 = .ok (.new 7, 3) := by decide +kernel
theorem dX11_init_19 : decode cX11_init 19 = .ok (.dup, 1) := by decide +kernel
theorem dX11_init_20 : decode cX11_init 20 = .ok (.invokespecial 9, 3) := by decide +kernel
theorem dX11_init_23 : decode cX11_init 23 = .ok (.putfield 16, 3) := by decide +kernel
theorem dX11_init_26 : decode cX11_init 26 = .ok (.aload_n 0, 1) := by decide +kernel
theorem dX11_init_27 : decode cX11_init 27 = .ok (.new 7, 3) := by decide +kernel
theorem dX11_init_30 : decode cX11_init 30 = .ok (.dup, 1) := by decide +kernel
theorem dX11_init_31 : decode cX11_init 31 = .ok (.invokespecial 9, 3) := by decide +kernel
theorem dX11_init_34 : decode cX11_init 34 = .ok (.putfield 19, 3) := by decide +kernel
theorem dX11_init_37 : decode cX11_init 37 = .ok (.aload_n 0, 1) := by decide +kernel
theorem dX11_init_38 : decode cX11_init 38 = .ok (.bipush 8, 2) := by decide +kernel
theorem dX11_init_40 : decode cX11_init 40 = .ok (.anewarray 22, 3) := by decide +kernel
theorem dX11_init_43 : decode cX11_init 43 = .ok (.putfield 24, 3) := by decide +kernel
theorem dX11_init_46 : decode cX11_init 46 = .ok (.iconst 0, 1) := by decide +kernel
theorem dX11_init_47 : decode cX11_init 47 = .ok (.istore_n 1, 1) := by decide +kernel
theorem dX11_init_48 : decode cX11_init 48 = .ok (.iload_n 1, 1) := by decide +kernel
theorem dX11_init_49 : decode cX11_init 49 = .ok (.bipush 8, 2) := by decide +kernel
theorem dX11_init_51 : decode cX11_init 51 = .ok (.if_icmp .ge 22, 3) := by decide +kernel
theorem dX11_init_54 : decode cX11_init 54 = .ok (.aload_n 0, 1) := by decide +kernel
theorem dX11_init_55 : decode cX11_init 55 = .ok (.getfield 24, 3) := by decide +kernel
theorem dX11_init_58 : decode cX11_init 58 = .ok (.iload_n 1, 1) := by decide +kernel
theorem dX11_init_59 : decode cX11_init 59 = .ok (.new 22, 3) := by decide +kernel
theorem dX11_init_62 : decode cX11_init 62 = .ok (.dup, 1) := by decide +kernel
theorem dX11_init_63 : decode cX11_init 63 = .ok (.invokespecial 28, 3) := by decide +kernel
theorem dX11_init_66 : decode cX11_init 66 = .ok (.aastore, 1) := by decide +kernel
theorem dX11_init_67 : decode cX11_init 67 = .ok (.iinc 1 1, 3) := by decide +kernel
theorem dX11_init_70 : decode cX11_init 70 = .ok (.goto (-22), 3) := by decide +kernel
theorem dX11_init_73 : decode cX11_init 73 = .ok (.aload_n 0, 1) := by decide +kernel
theorem dX11_init_74 : decode cX11_init 74 = .ok (.iconst 4, 1) := by decide +kernel
theorem dX11_init_75 : decode cX11_init 75 = .ok (.newarray .int, 2) := by decide +kernel
theorem dX11_init_77 : decode cX11_init 77 = .ok (.putfield 29, 3) := by decide +kernel
theorem dX11_init_80 : decode cX11_init 80 = .ok (.aload_n 0, 1) := by decide +kernel
theorem dX11_init_81 : decode cX11_init 81 = .ok (.iconst 4, 1) := by decide +kernel
theorem dX11_init_82 : decode cX11_init 82 = .ok (.newarray .int, 2) := by decide +kernel
theorem dX11_init_84 : decode cX11_init 84 = .ok (.putfield 33, 3) := by decide +kernel
theorem dX11_init_87 : decode cX11_init 87 = .ok (.return_, 1) := by decide +kernel
set_option maxRecDepth 20000 in
theorem ggX11_isle_X11_refusalOfRow : GoodIn wsX11_isle wsX11_refusalOfRow := goodIn_r _ [10, 11, 12, 13, 9, 14, 1, 15, 16, 17, 18, 19, 20, 21, 247, 248, 249, 250, 251, 252, 253, 254, 255, 256, 257, 258, 259] (by decide +kernel) (by decide +kernel)
set_option maxRecDepth 20000 in
theorem gX11_isle_X11_refusalOfRow : GoodIn wsX11_isle (wsV RX11 36 RX11 yX11_refusalOfRow wsX11_refusalOfRow) := goodIn_app (goodIn_of _ (by decide +kernel)) ggX11_isle_X11_refusalOfRow
set_option maxRecDepth 20000 in
theorem ggX11_isle_X9_placeOfWrongForm : GoodIn wsX11_isle wsX9_placeOfWrongForm := goodIn_r _ [25, 26, 27, 28, 29, 30, 31, 32, 33, 34, 35, 36, 37, 38, 39, 24, 40, 41, 42, 43, 254, 255, 256, 257, 258, 259] (by decide +kernel) (by decide +kernel)
set_option maxRecDepth 20000 in
theorem gX11_isle_X9_placeOfWrongForm : GoodIn wsX11_isle (va_wsS RX11 44 yX9_placeOfWrongForm wsX9_placeOfWrongForm) := goodIn_app (goodIn_of _ (by decide +kernel)) ggX11_isle_X9_placeOfWrongForm
set_option maxRecDepth 20000 in
theorem ggX11_isle_X4_become : GoodIn wsX11_isle wsX4_become := goodIn_r _ [48, 49, 50, 51, 52, 53, 54, 55, 56, 57, 58, 59, 60, 61, 260, 261, 262, 263, 264, 265, 266, 267, 268, 269] (by decide +kernel) (by decide +kernel)
set_option maxRecDepth 20000 in
theorem gX11_isle_X4_become : GoodIn wsX11_isle (wsV RX11 50 RX4 yX4_become wsX4_become) := goodIn_app (goodIn_of _ (by decide +kernel)) ggX11_isle_X4_become
set_option maxRecDepth 20000 in
theorem ggX11_isle_X9_comeTrue : GoodIn wsX11_isle wsX9_comeTrue := goodIn_r _ [64, 65, 66, 27, 28, 29, 30, 31, 32, 33, 34, 35, 36, 37, 67, 68, 24, 69, 70, 71, 72, 73, 74, 75, 47, 76, 57, 49, 54, 55, 56, 58, 77, 78, 79, 80, 81, 82, 83, 84, 85, 86, 87, 88, 89, 90, 91, 92, 93, 9, 94, 95, 96, 97, 98, 99, 100, 101, 102, 103, 104, 105, 106, 107, 108, 109, 110, 61, 111, 112, 113, 114, 115, 116, 117, 118, 119, 120, 121, 122, 123, 124, 125, 126, 127, 128, 129, 130, 60, 131, 132, 133, 134, 135, 136, 137, 138, 139, 140, 141, 142, 143, 144, 145, 146, 147, 148, 149, 150, 151, 152, 153, 154, 155, 156, 157, 158, 159, 160, 161, 162, 163, 164, 165, 166, 167, 168, 169, 170, 171, 172, 173, 174, 175, 59, 176, 177, 178, 179, 180, 181, 182, 183, 184, 185, 186, 187, 188, 189, 190, 191, 192, 193, 194, 195, 196, 197, 198, 199, 200, 201, 202, 203, 204, 205, 206, 207, 208, 209, 210, 211, 212, 213, 214, 215, 216, 217, 218, 219, 220, 221, 222, 223, 224, 225, 226, 227, 228, 229, 230, 231, 232, 233, 234, 235, 236, 237, 238, 239, 240, 241, 242, 243, 260, 261, 262, 263, 264, 265, 266, 267, 268, 269, 254, 255, 256, 257, 258, 259] (by decide +kernel) (by decide +kernel)
set_option maxRecDepth 20000 in
theorem gX11_isle_X9_comeTrue : GoodIn wsX11_isle (va_wsS RX11 57 yX9_comeTrue wsX9_comeTrue) := goodIn_app (goodIn_of _ (by decide +kernel)) ggX11_isle_X9_comeTrue
set_option maxRecDepth 20000 in
theorem ggX11_isle_X9_behindStatement : GoodIn wsX11_isle wsX9_behindStatement := goodIn_r _ [246, 27, 28, 29, 30, 31, 32, 33, 34, 35, 36, 37, 38, 39, 24, 40, 254, 255, 256, 257, 258, 259] (by decide +kernel) (by decide +kernel)
set_option maxRecDepth 20000 in
theorem gX11_isle_X9_behindStatement : GoodIn wsX11_isle (va_wsS RX11 61 yX9_behindStatement wsX9_behindStatement) := goodIn_app (goodIn_of _ (by decide +kernel)) ggX11_isle_X9_behindStatement
theorem dX11_isle_0 : decode cX11_isle 0 = .ok (.aload_n 0, 1) := by decide +kernel
theorem dX11_isle_1 : decode cX11_isle 1 = .ok (.iload_n 1, 1) := by decide +kernel
theorem dX11_isle_2 : decode cX11_isle 2 = .ok (.invokevirtual 36, 3) := by decide +kernel
theorem dX11_isle_5 : decode cX11_isle 5 = .ok (.istore_n 2, 1) := by decide +kernel
theorem dX11_isle_6 : decode cX11_isle 6 = .ok (.iload_n 2, 1) := by decide +kernel
theorem dX11_isle_7 : decode cX11_isle 7 = .ok (.ifCond .eq 5, 3) := by decide +kernel
theorem dX11_isle_10 : decode cX11_isle 10 = .ok (.iload_n 2, 1) := by decide +kernel
theorem dX11_isle_11 : decode cX11_isle 11 = .ok (.ireturn, 1) := by decide +kernel
theorem dX11_isle_12 : decode cX11_isle 12 = .ok (.aload_n 0, 1) := by decide +kernel
theorem dX11_isle_13 : decode cX11_isle 13 = .ok (.getfield 24, 3) := by decide +kernel
theorem dX11_isle_16 : decode cX11_isle 16 = .ok (.iload_n 1, 1) := by decide +kernel
theorem dX11_isle_17 : decode cX11_isle 17 = .ok (.aaload, 1) := by decide +kernel
theorem dX11_isle_18 : decode cX11_isle 18 = .ok (.astore_n 3, 1) := by decide +kernel
theorem dX11_isle_19 : decode cX11_isle 19 = .ok (.aload_n 3, 1) := by decide +kernel
theorem dX11_isle_20 : decode cX11_isle 20 = .ok (.getfield 40, 3) := by decide +kernel
theorem dX11_isle_23 : decode cX11_isle 23 = .ok (.ifCond .eq 6, 3) := by decide +kernel
theorem dX11_isle_26 : decode cX11_isle 26 = .ok (.bipush (-12), 2) := by decide +kernel
theorem dX11_isle_28 : decode cX11_isle 28 = .ok (.ireturn, 1) := by decide +kernel
theorem dX11_isle_29 : decode cX11_isle 29 = .ok (.aload_n 3, 1) := by decide +kernel
theorem dX11_isle_30 : decode cX11_isle 30 = .ok (.invokestatic 44, 3) := by decide +kernel
theorem dX11_isle_33 : decode cX11_isle 33 = .ok (.istore 4, 2) := by decide +kernel
theorem dX11_isle_35 : decode cX11_isle 35 = .ok (.iload 4, 2) := by decide +kernel
theorem dX11_isle_37 : decode cX11_isle 37 = .ok (.ifCond .lt 10, 3) := by decide +kernel
theorem dX11_isle_40 : decode cX11_isle 40 = .ok (.sipush (-1000), 3) := by decide +kernel
theorem dX11_isle_43 : decode cX11_isle 43 = .ok (.iload 4, 2) := by decide +kernel
theorem dX11_isle_45 : decode cX11_isle 45 = .ok (.isub, 1) := by decide +kernel
theorem dX11_isle_46 : decode cX11_isle 46 = .ok (.ireturn, 1) := by decide +kernel
theorem dX11_isle_47 : decode cX11_isle 47 = .ok (.aload_n 0, 1) := by decide +kernel
theorem dX11_isle_48 : decode cX11_isle 48 = .ok (.getfield 19, 3) := by decide +kernel
theorem dX11_isle_51 : decode cX11_isle 51 = .ok (.aload_n 0, 1) := by decide +kernel
theorem dX11_isle_52 : decode cX11_isle 52 = .ok (.getfield 10, 3) := by decide +kernel
theorem dX11_isle_55 : decode cX11_isle 55 = .ok (.invokevirtual 50, 3) := by decide +kernel
theorem dX11_isle_58 : decode cX11_isle 58 = .ok (.iconst 0, 1) := by decide +kernel
theorem dX11_isle_59 : decode cX11_isle 59 = .ok (.istore 5, 2) := by decide +kernel
theorem dX11_isle_61 : decode cX11_isle 61 = .ok (.iconst 0, 1) := by decide +kernel
theorem dX11_isle_62 : decode cX11_isle 62 = .ok (.istore 6, 2) := by decide +kernel
theorem dX11_isle_64 : decode cX11_isle 64 = .ok (.iload 6, 2) := by decide +kernel
theorem dX11_isle_66 : decode cX11_isle 66 = .ok (.aload_n 3, 1) := by decide +kernel
theorem dX11_isle_67 : decode cX11_isle 67 = .ok (.getfield 54, 3) := by decide +kernel
theorem dX11_isle_70 : decode cX11_isle 70 = .ok (.if_icmp .ge 44, 3) := by decide +kernel
theorem dX11_isle_73 : decode cX11_isle 73 = .ok (.iload 5, 2) := by decide +kernel
theorem dX11_isle_75 : decode cX11_isle 75 = .ok (.bipush 100, 2) := by decide +kernel
theorem dX11_isle_77 : decode cX11_isle 77 = .ok (.if_icmp .ge 37, 3) := by decide +kernel
theorem dX11_isle_80 : decode cX11_isle 80 = .ok (.aload_n 3, 1) := by decide +kernel
theorem dX11_isle_81 : decode cX11_isle 81 = .ok (.iload 6, 2) := by decide +kernel
theorem dX11_isle_83 : decode cX11_isle 83 = .ok (.aload_n 0, 1) := by decide +kernel
theorem dX11_isle_84 : decode cX11_isle 84 = .ok (.getfield 19, 3) := by decide +kernel
theorem dX11_isle_87 : decode cX11_isle 87 = .ok (.invokestatic 57, 3) := by decide +kernel
theorem dX11_isle_90 : decode cX11_isle 90 = .ok (.ifCond .ne 10, 3) := by decide +kernel
theorem dX11_isle_93 : decode cX11_isle 93 = .ok (.sipush (-2000), 3) := by decide +kernel
theorem dX11_isle_96 : decode cX11_isle 96 = .ok (.iload 6, 2) := by decide +kernel
theorem dX11_isle_98 : decode cX11_isle 98 = .ok (.isub, 1) := by decide +kernel
theorem dX11_isle_99 : decode cX11_isle 99 = .ok (.ireturn, 1) := by decide +kernel
theorem dX11_isle_100 : decode cX11_isle 100 = .ok (.aload_n 3, 1) := by decide +kernel
theorem dX11_isle_101 : decode cX11_isle 101 = .ok (.iload 6, 2) := by decide +kernel
theorem dX11_isle_103 : decode cX11_isle 103 = .ok (.invokestatic 61, 3) := by decide +kernel
theorem dX11_isle_106 : decode cX11_isle 106 = .ok (.istore 6, 2) := by decide +kernel
theorem dX11_isle_108 : decode cX11_isle 108 = .ok (.iinc 5 1, 3) := by decide +kernel
theorem dX11_isle_111 : decode cX11_isle 111 = .ok (.goto (-47), 3) := by decide +kernel
theorem dX11_isle_114 : decode cX11_isle 114 = .ok (.aload_n 0, 1) := by decide +kernel
theorem dX11_isle_115 : decode cX11_isle 115 = .ok (.getfield 10, 3) := by decide +kernel
theorem dX11_isle_118 : decode cX11_isle 118 = .ok (.aload_n 0, 1) := by decide +kernel
theorem dX11_isle_119 : decode cX11_isle 119 = .ok (.getfield 19, 3) := by decide +kernel
theorem dX11_isle_122 : decode cX11_isle 122 = .ok (.invokevirtual 50, 3) := by decide +kernel
theorem dX11_isle_125 : decode cX11_isle 125 = .ok (.iload 5, 2) := by decide +kernel
theorem dX11_isle_127 : decode cX11_isle 127 = .ok (.ireturn, 1) := by decide +kernel
set_option maxRecDepth 20000 in
theorem ggX11_tenant_X4_knows : GoodIn wsX11_tenant wsX4_knows := goodIn_r _ [11, 12, 114, 115, 116, 117, 118, 119, 120, 121, 122, 123] (by decide +kernel) (by decide +kernel)
set_option maxRecDepth 20000 in
theorem gX11_tenant_X4_knows : GoodIn wsX11_tenant (wsV RX11 65 RX4 yX4_knows wsX4_knows) := goodIn_app (goodIn_of _ (by decide +kernel)) ggX11_tenant_X4_knows
set_option maxRecDepth 20000 in
theorem ggX11_tenant_X4_isThere : GoodIn wsX11_tenant wsX4_isThere := goodIn_r _ [16, 17, 18, 19, 20, 114, 115, 116, 117, 118, 119, 120, 121, 122, 123] (by decide +kernel) (by decide +kernel)
set_option maxRecDepth 20000 in
theorem gX11_tenant_X4_isThere : GoodIn wsX11_tenant (wsV RX11 81 RX4 yX4_isThere wsX4_isThere) := goodIn_app (goodIn_of _ (by decide +kernel)) ggX11_tenant_X4_isThere
set_option maxRecDepth 20000 in
theorem ggX11_tenant_X4_owedBy : GoodIn wsX11_tenant wsX4_owedBy := goodIn_r _ [24, 25, 26, 27, 28, 29, 30, 31, 32, 33, 34, 35, 36, 37, 38, 39, 40, 41, 42, 43, 44, 45, 46, 47, 48, 49, 50, 51, 52, 53, 54, 55, 56, 57, 58, 59, 60, 61, 62, 63, 64, 65, 66, 67, 114, 115, 116, 117, 118, 119, 120, 121, 122, 123] (by decide +kernel) (by decide +kernel)
set_option maxRecDepth 20000 in
theorem gX11_tenant_X4_owedBy : GoodIn wsX11_tenant (wsV RX11 84 RX4 yX4_owedBy wsX4_owedBy) := goodIn_app (goodIn_of _ (by decide +kernel)) ggX11_tenant_X4_owedBy
set_option maxRecDepth 20000 in
theorem ggX11_tenant_X4_catchOf : GoodIn wsX11_tenant wsX4_catchOf := goodIn_r _ [71, 25, 26, 27, 72, 73, 74, 75, 76, 77, 34, 78, 79, 80, 81, 39, 82, 83, 84, 85, 66, 86, 87, 43, 88, 89, 90, 47, 91, 92, 93, 94, 58, 95, 96, 97, 62, 98, 99, 100, 101, 102, 103, 104, 105, 106, 114, 115, 116, 117, 118, 119, 120, 121, 122, 123] (by decide +kernel) (by decide +kernel)
set_option maxRecDepth 20000 in
theorem gX11_tenant_X4_catchOf : GoodIn wsX11_tenant (wsV RX11 90 RX4 yX4_catchOf wsX4_catchOf) := goodIn_app (goodIn_of _ (by decide +kernel)) ggX11_tenant_X4_catchOf
theorem dX11_tenant_0 : decode cX11_tenant 0 = .ok (.aload_n 0, 1) := by decide +kernel
theorem dX11_tenant_1 : decode cX11_tenant 1 = .ok (.getfield 10, 3) := by decide +kernel
theorem dX11_tenant_4 : decode cX11_tenant 4 = .ok (.iload_n 1, 1) := by decide +kernel
theorem dX11_tenant_5 : decode cX11_tenant 5 = .ok (.invokevirtual 65, 3) := by decide +kernel
theorem dX11_tenant_8 : decode cX11_tenant 8 = .ok (.ifCond .ne 5, 3) := by decide +kernel
theorem dX11_tenant_11 : decode cX11_tenant 11 = .ok (.iconst (-1), 1) := by decide +kernel
theorem dX11_tenant_12 : decode cX11_tenant 12 = .ok (.ireturn, 1) := by decide +kernel
theorem dX11_tenant_13 : decode cX11_tenant 13 = .ok (.iload_n 2, 1) := by decide +kernel
theorem dX11_tenant_14 : decode cX11_tenant 14 = .ok (.tableswitch 126 0 6 #[42, 52, 62, 72, 82, 99, 108], 42) := by decide +kernel
theorem dX11_tenant_56 : decode cX11_tenant 56 = .ok (.aload_n 0, 1) := by decide +kernel
theorem dX11_tenant_57 : decode cX11_tenant 57 = .ok (.getfield 10, 3) := by decide +kernel
theorem dX11_tenant_60 : decode cX11_tenant 60 = .ok (.getfield 69, 3) := by decide +kernel
theorem dX11_tenant_63 : decode cX11_tenant 63 = .ok (.iload_n 1, 1) := by decide +kernel
theorem dX11_tenant_64 : decode cX11_tenant 64 = .ok (.iaload, 1) := by decide +kernel
theorem dX11_tenant_65 : decode cX11_tenant 65 = .ok (.ireturn, 1) := by decide +kernel
theorem dX11_tenant_66 : decode cX11_tenant 66 = .ok (.aload_n 0, 1) := by decide +kernel
theorem dX11_tenant_67 : decode cX11_tenant 67 = .ok (.getfield 10, 3) := by decide +kernel
theorem dX11_tenant_70 : decode cX11_tenant 70 = .ok (.getfield 72, 3) := by decide +kernel
theorem dX11_tenant_73 : decode cX11_tenant 73 = .ok (.iload_n 1, 1) := by decide +kernel
theorem dX11_tenant_74 : decode cX11_tenant 74 = .ok (.iaload, 1) := by decide +kernel
theorem dX11_tenant_75 : decode cX11_tenant 75 = .ok (.ireturn, 1) := by decide +kernel
theorem dX11_tenant_76 : decode cX11_tenant 76 = .ok (.aload_n 0, 1) := by decide +kernel
theorem dX11_tenant_77 : decode cX11_tenant 77 = .ok (.getfield 10, 3) := by decide +kernel
theorem dX11_tenant_80 : decode cX11_tenant 80 = .ok (.getfield 75, 3) := by decide +kernel
theorem dX11_tenant_83 : decode cX11_tenant 83 = .ok (.iload_n 1, 1) := by decide +kernel
theorem dX11_tenant_84 : decode cX11_tenant 84 = .ok (.iaload, 1) := by decide +kernel
theorem dX11_tenant_85 : decode cX11_tenant 85 = .ok (.ireturn, 1) := by decide +kernel
theorem dX11_tenant_86 : decode cX11_tenant 86 = .ok (.aload_n 0, 1) := by decide +kernel
theorem dX11_tenant_87 : decode cX11_tenant 87 = .ok (.getfield 10, 3) := by decide +kernel
theorem dX11_tenant_90 : decode cX11_tenant 90 = .ok (.getfield 78, 3) := by decide +kernel
theorem dX11_tenant_93 : decode cX11_tenant 93 = .ok (.iload_n 1, 1) := by decide +kernel
theorem dX11_tenant_94 : decode cX11_tenant 94 = .ok (.iaload, 1) := by decide +kernel
theorem dX11_tenant_95 : decode cX11_tenant 95 = .ok (.ireturn, 1) := by decide +kernel
theorem dX11_tenant_96 : decode cX11_tenant 96 = .ok (.aload_n 0, 1) := by decide +kernel
theorem dX11_tenant_97 : decode cX11_tenant 97 = .ok (.getfield 10, 3) := by decide +kernel
theorem dX11_tenant_100 : decode cX11_tenant 100 = .ok (.iload_n 1, 1) := by decide +kernel
theorem dX11_tenant_101 : decode cX11_tenant 101 = .ok (.invokevirtual 81, 3) := by decide +kernel
theorem dX11_tenant_104 : decode cX11_tenant 104 = .ok (.ifCond .eq 7, 3) := by decide +kernel
theorem dX11_tenant_107 : decode cX11_tenant 107 = .ok (.iconst 1, 1) := by decide +kernel
theorem dX11_tenant_108 : decode cX11_tenant 108 = .ok (.goto 4, 3) := by decide +kernel
theorem dX11_tenant_111 : decode cX11_tenant 111 = .ok (.iconst 0, 1) := by decide +kernel
theorem dX11_tenant_112 : decode cX11_tenant 112 = .ok (.ireturn, 1) := by decide +kernel
theorem dX11_tenant_113 : decode cX11_tenant 113 = .ok (.aload_n 0, 1) := by decide +kernel
theorem dX11_tenant_114 : decode cX11_tenant 114 = .ok (.getfield 10, 3) := by decide +kernel
theorem dX11_tenant_117 : decode cX11_tenant 117 = .ok (.iload_n 1, 1) := by decide +kernel
theorem dX11_tenant_118 : decode cX11_tenant 118 = .ok (.invokevirtual 84, 3) := by decide +kernel
theorem dX11_tenant_121 : decode cX11_tenant 121 = .ok (.ireturn, 1) := by decide +kernel
theorem dX11_tenant_122 : decode cX11_tenant 122 = .ok (.aload_n 0, 1) := by decide +kernel
theorem dX11_tenant_123 : decode cX11_tenant 123 = .ok (.getfield 10, 3) := by decide +kernel
theorem dX11_tenant_126 : decode cX11_tenant 126 = .ok (.iload_n 1, 1) := by decide +kernel
theorem dX11_tenant_127 : decode cX11_tenant 127 = .ok (.aload_n 0, 1) := by decide +kernel
theorem dX11_tenant_128 : decode cX11_tenant 128 = .ok (.getfield 10, 3) := by decide +kernel
theorem dX11_tenant_131 : decode cX11_tenant 131 = .ok (.getfield 87, 3) := by decide +kernel
theorem dX11_tenant_134 : decode cX11_tenant 134 = .ok (.iconst 1, 1) := by decide +kernel
theorem dX11_tenant_135 : decode cX11_tenant 135 = .ok (.iadd, 1) := by decide +kernel
theorem dX11_tenant_136 : decode cX11_tenant 136 = .ok (.invokevirtual 90, 3) := by decide +kernel
theorem dX11_tenant_139 : decode cX11_tenant 139 = .ok (.ireturn, 1) := by decide +kernel
theorem dX11_tenant_140 : decode cX11_tenant 140 = .ok (.iconst (-1), 1) := by decide +kernel
theorem dX11_tenant_141 : decode cX11_tenant 141 = .ok (.ireturn, 1) := by decide +kernel
set_option maxRecDepth 20000 in
theorem ggX11_comes_X11_within : GoodIn wsX11_comes wsX11_within := goodIn_r _ [9] (by decide +kernel) (by decide +kernel)
set_option maxRecDepth 20000 in
theorem gX11_comes_X11_within : GoodIn wsX11_comes (va_wsS RX11 94 yX11_within wsX11_within) := goodIn_app (goodIn_of _ (by decide +kernel)) ggX11_comes_X11_within
set_option maxRecDepth 20000 in
theorem ggX11_comes_X11_refusalOfOne : GoodIn wsX11_comes wsX11_refusalOfOne := goodIn_r _ [13, 14, 15, 16, 8, 17, 2, 18, 19, 20, 21, 6, 7, 9, 33, 34, 35, 36, 37, 38, 39, 40, 41, 42, 43, 44, 45] (by decide +kernel) (by decide +kernel)
set_option maxRecDepth 20000 in
theorem gX11_comes_X11_refusalOfOne : GoodIn wsX11_comes (wsV RX11 98 RX11 yX11_refusalOfOne wsX11_refusalOfOne) := goodIn_app (goodIn_of _ (by decide +kernel)) ggX11_comes_X11_refusalOfOne
set_option maxRecDepth 20000 in
theorem ggX11_comes_X4_takeIn : GoodIn wsX11_comes wsX4_takeIn := goodIn_r _ [26, 27, 28, 29, 30, 31, 32, 46, 47, 48, 49, 50, 51, 52, 53, 54, 55] (by decide +kernel) (by decide +kernel)
set_option maxRecDepth 20000 in
theorem gX11_comes_X4_takeIn : GoodIn wsX11_comes (wsV RX11 105 RX4 yX4_takeIn wsX4_takeIn) := goodIn_app (goodIn_of _ (by decide +kernel)) ggX11_comes_X4_takeIn
theorem dX11_comes_0 : decode cX11_comes 0 = .ok (.iload_n 2, 1) := by decide +kernel
theorem dX11_comes_1 : decode cX11_comes 1 = .ok (.iconst 0, 1) := by decide +kernel
theorem dX11_comes_2 : decode cX11_comes 2 = .ok (.bipush 99, 2) := by decide +kernel
theorem dX11_comes_4 : decode cX11_comes 4 = .ok (.invokestatic 94, 3) := by decide +kernel
theorem dX11_comes_7 : decode cX11_comes 7 = .ok (.ifCond .ne 5, 3) := by decide +kernel
theorem dX11_comes_10 : decode cX11_comes 10 = .ok (.iconst (-1), 1) := by decide +kernel
theorem dX11_comes_11 : decode cX11_comes 11 = .ok (.ireturn, 1) := by decide +kernel
theorem dX11_comes_12 : decode cX11_comes 12 = .ok (.aload_n 0, 1) := by decide +kernel
theorem dX11_comes_13 : decode cX11_comes 13 = .ok (.iload_n 1, 1) := by decide +kernel
theorem dX11_comes_14 : decode cX11_comes 14 = .ok (.invokevirtual 98, 3) := by decide +kernel
theorem dX11_comes_17 : decode cX11_comes 17 = .ok (.istore_n 3, 1) := by decide +kernel
theorem dX11_comes_18 : decode cX11_comes 18 = .ok (.iload_n 3, 1) := by decide +kernel
theorem dX11_comes_19 : decode cX11_comes 19 = .ok (.ifCond .eq 5, 3) := by decide +kernel
theorem dX11_comes_22 : decode cX11_comes 22 = .ok (.iload_n 3, 1) := by decide +kernel
theorem dX11_comes_23 : decode cX11_comes 23 = .ok (.ireturn, 1) := by decide +kernel
theorem dX11_comes_24 : decode cX11_comes 24 = .ok (.aload_n 0, 1) := by decide +kernel
theorem dX11_comes_25 : decode cX11_comes 25 = .ok (.getfield 10, 3) := by decide +kernel
theorem dX11_comes_28 : decode cX11_comes 28 = .ok (.aload_n 0, 1) := by decide +kernel
theorem dX11_comes_29 : decode cX11_comes 29 = .ok (.getfield 24, 3) := by decide +kernel
theorem dX11_comes_32 : decode cX11_comes 32 = .ok (.iload_n 1, 1) := by decide +kernel
theorem dX11_comes_33 : decode cX11_comes 33 = .ok (.aaload, 1) := by decide +kernel
theorem dX11_comes_34 : decode cX11_comes 34 = .ok (.getfield 101, 3) := by decide +kernel
theorem dX11_comes_37 : decode cX11_comes 37 = .ok (.aload_n 0, 1) := by decide +kernel
theorem dX11_comes_38 : decode cX11_comes 38 = .ok (.getfield 24, 3) := by decide +kernel
theorem dX11_comes_41 : decode cX11_comes 41 = .ok (.iload_n 1, 1) := by decide +kernel
theorem dX11_comes_42 : decode cX11_comes 42 = .ok (.aaload, 1) := by decide +kernel
theorem dX11_comes_43 : decode cX11_comes 43 = .ok (.getfield 103, 3) := by decide +kernel
theorem dX11_comes_46 : decode cX11_comes 46 = .ok (.iload_n 2, 1) := by decide +kernel
theorem dX11_comes_47 : decode cX11_comes 47 = .ok (.invokevirtual 105, 3) := by decide +kernel
theorem dX11_comes_50 : decode cX11_comes 50 = .ok (.istore 4, 2) := by decide +kernel
theorem dX11_comes_52 : decode cX11_comes 52 = .ok (.iload 4, 2) := by decide +kernel
theorem dX11_comes_54 : decode cX11_comes 54 = .ok (.ifCond .eq 15, 3) := by decide +kernel
theorem dX11_comes_57 : decode cX11_comes 57 = .ok (.aload_n 0, 1) := by decide +kernel
theorem dX11_comes_58 : decode cX11_comes 58 = .ok (.getfield 10, 3) := by decide +kernel
theorem dX11_comes_61 : decode cX11_comes 61 = .ok (.getfield 108, 3) := by decide +kernel
theorem dX11_comes_64 : decode cX11_comes 64 = .ok (.iconst 1, 1) := by decide +kernel
theorem dX11_comes_65 : decode cX11_comes 65 = .ok (.isub, 1) := by decide +kernel
theorem dX11_comes_66 : decode cX11_comes 66 = .ok (.goto 5, 3) := by decide +kernel
theorem dX11_comes_69 : decode cX11_comes 69 = .ok (.bipush (-2), 2) := by decide +kernel
theorem dX11_comes_71 : decode cX11_comes 71 = .ok (.ireturn, 1) := by decide +kernel
set_option maxRecDepth 20000 in
theorem ggX11_stores_X4_knows : GoodIn wsX11_stores wsX4_knows := goodIn_r _ [7, 8, 20, 21, 22, 23, 24, 25, 26, 27, 28, 29] (by decide +kernel) (by decide +kernel)
set_option maxRecDepth 20000 in
theorem gX11_stores_X4_knows : GoodIn wsX11_stores (wsV RX11 65 RX4 yX4_knows wsX4_knows) := goodIn_app (goodIn_of _ (by decide +kernel)) ggX11_stores_X4_knows
set_option maxRecDepth 20000 in
theorem ggX11_stores_X11_within : GoodIn wsX11_stores wsX11_within := goodIn_r _ [12] (by decide +kernel) (by decide +kernel)
set_option maxRecDepth 20000 in
theorem gX11_stores_X11_within : GoodIn wsX11_stores (va_wsS RX11 94 yX11_within wsX11_within) := goodIn_app (goodIn_of _ (by decide +kernel)) ggX11_stores_X11_within
theorem dX11_stores_0 : decode cX11_stores 0 = .ok (.aload_n 0, 1) := by decide +kernel
theorem dX11_stores_1 : decode cX11_stores 1 = .ok (.getfield 10, 3) := by decide +kernel
theorem dX11_stores_4 : decode cX11_stores 4 = .ok (.iload_n 1, 1) := by decide +kernel
theorem dX11_stores_5 : decode cX11_stores 5 = .ok (.invokevirtual 65, 3) := by decide +kernel
theorem dX11_stores_8 : decode cX11_stores 8 = .ok (.ifCond .eq 13, 3) := by decide +kernel
theorem dX11_stores_11 : decode cX11_stores 11 = .ok (.iload_n 2, 1) := by decide +kernel
theorem dX11_stores_12 : decode cX11_stores 12 = .ok (.iconst 0, 1) := by decide +kernel
theorem dX11_stores_13 : decode cX11_stores 13 = .ok (.bipush 99, 2) := by decide +kernel
theorem dX11_stores_15 : decode cX11_stores 15 = .ok (.invokestatic 94, 3) := by decide +kernel
theorem dX11_stores_18 : decode cX11_stores 18 = .ok (.ifCond .ne 5, 3) := by decide +kernel
theorem dX11_stores_21 : decode cX11_stores 21 = .ok (.iconst (-1), 1) := by decide +kernel
theorem dX11_stores_22 : decode cX11_stores 22 = .ok (.ireturn, 1) := by decide +kernel
theorem dX11_stores_23 : decode cX11_stores 23 = .ok (.aload_n 0, 1) := by decide +kernel
theorem dX11_stores_24 : decode cX11_stores 24 = .ok (.getfield 10, 3) := by decide +kernel
theorem dX11_stores_27 : decode cX11_stores 27 = .ok (.getfield 75, 3) := by decide +kernel
theorem dX11_stores_30 : decode cX11_stores 30 = .ok (.iload_n 1, 1) := by decide +kernel
theorem dX11_stores_31 : decode cX11_stores 31 = .ok (.iaload, 1) := by decide +kernel
theorem dX11_stores_32 : decode cX11_stores 32 = .ok (.istore_n 3, 1) := by decide +kernel
theorem dX11_stores_33 : decode cX11_stores 33 = .ok (.aload_n 0, 1) := by decide +kernel
theorem dX11_stores_34 : decode cX11_stores 34 = .ok (.getfield 10, 3) := by decide +kernel
theorem dX11_stores_37 : decode cX11_stores 37 = .ok (.getfield 75, 3) := by decide +kernel
theorem dX11_stores_40 : decode cX11_stores 40 = .ok (.iload_n 1, 1) := by decide +kernel
theorem dX11_stores_41 : decode cX11_stores 41 = .ok (.iload_n 2, 1) := by decide +kernel
theorem dX11_stores_42 : decode cX11_stores 42 = .ok (.iastore, 1) := by decide +kernel
theorem dX11_stores_43 : decode cX11_stores 43 = .ok (.iload_n 3, 1) := by decide +kernel
theorem dX11_stores_44 : decode cX11_stores 44 = .ok (.ireturn, 1) := by decide +kernel
set_option maxRecDepth 20000 in
theorem ggX11_set_X11_within : GoodIn wsX11_set wsX11_within := goodIn_r _ [7] (by decide +kernel) (by decide +kernel)
set_option maxRecDepth 20000 in
theorem gX11_set_X11_within : GoodIn wsX11_set (va_wsS RX11 94 yX11_within wsX11_within) := goodIn_app (goodIn_of _ (by decide +kernel)) ggX11_set_X11_within
theorem dX11_set_0 : decode cX11_set 0 = .ok (.iload_n 1, 1) := by decide +kernel
theorem dX11_set_1 : decode cX11_set 1 = .ok (.ifCond .ne 31, 3) := by decide +kernel
theorem dX11_set_4 : decode cX11_set 4 = .ok (.iload_n 2, 1) := by decide +kernel
theorem dX11_set_5 : decode cX11_set 5 = .ok (.iconst 0, 1) := by decide +kernel
theorem dX11_set_6 : decode cX11_set 6 = .ok (.bipush 9, 2) := by decide +kernel
theorem dX11_set_8 : decode cX11_set 8 = .ok (.invokestatic 94, 3) := by decide +kernel
theorem dX11_set_11 : decode cX11_set 11 = .ok (.ifCond .eq 21, 3) := by decide +kernel
theorem dX11_set_14 : decode cX11_set 14 = .ok (.aload_n 0, 1) := by decide +kernel
theorem dX11_set_15 : decode cX11_set 15 = .ok (.getfield 10, 3) := by decide +kernel
theorem dX11_set_18 : decode cX11_set 18 = .ok (.getfield 111, 3) := by decide +kernel
theorem dX11_set_21 : decode cX11_set 21 = .ok (.istore_n 3, 1) := by decide +kernel
theorem dX11_set_22 : decode cX11_set 22 = .ok (.aload_n 0, 1) := by decide +kernel
theorem dX11_set_23 : decode cX11_set 23 = .ok (.getfield 10, 3) := by decide +kernel
theorem dX11_set_26 : decode cX11_set 26 = .ok (.iload_n 2, 1) := by decide +kernel
theorem dX11_set_27 : decode cX11_set 27 = .ok (.putfield 111, 3) := by decide +kernel
theorem dX11_set_30 : decode cX11_set 30 = .ok (.iload_n 3, 1) := by decide +kernel
theorem dX11_set_31 : decode cX11_set 31 = .ok (.ireturn, 1) := by decide +kernel
theorem dX11_set_32 : decode cX11_set 32 = .ok (.iload_n 1, 1) := by decide +kernel
theorem dX11_set_33 : decode cX11_set 33 = .ok (.iconst 1, 1) := by decide +kernel
theorem dX11_set_34 : decode cX11_set 34 = .ok (.if_icmp .ne 31, 3) := by decide +kernel
theorem dX11_set_37 : decode cX11_set 37 = .ok (.iload_n 2, 1) := by decide +kernel
theorem dX11_set_38 : decode cX11_set 38 = .ok (.iconst 0, 1) := by decide +kernel
theorem dX11_set_39 : decode cX11_set 39 = .ok (.bipush 99, 2) := by decide +kernel
theorem dX11_set_41 : decode cX11_set 41 = .ok (.invokestatic 94, 3) := by decide +kernel
theorem dX11_set_44 : decode cX11_set 44 = .ok (.ifCond .eq 21, 3) := by decide +kernel
theorem dX11_set_47 : decode cX11_set 47 = .ok (.aload_n 0, 1) := by decide +kernel
theorem dX11_set_48 : decode cX11_set 48 = .ok (.getfield 10, 3) := by decide +kernel
theorem dX11_set_51 : decode cX11_set 51 = .ok (.getfield 114, 3) := by decide +kernel
theorem dX11_set_54 : decode cX11_set 54 = .ok (.istore_n 3, 1) := by decide +kernel
theorem dX11_set_55 : decode cX11_set 55 = .ok (.aload_n 0, 1) := by decide +kernel
theorem dX11_set_56 : decode cX11_set 56 = .ok (.getfield 10, 3) := by decide +kernel
theorem dX11_set_59 : decode cX11_set 59 = .ok (.iload_n 2, 1) := by decide +kernel
theorem dX11_set_60 : decode cX11_set 60 = .ok (.putfield 114, 3) := by decide +kernel
theorem dX11_set_63 : decode cX11_set 63 = .ok (.iload_n 3, 1) := by decide +kernel
theorem dX11_set_64 : decode cX11_set 64 = .ok (.ireturn, 1) := by decide +kernel
theorem dX11_set_65 : decode cX11_set 65 = .ok (.iconst (-1), 1) := by decide +kernel
theorem dX11_set_66 : decode cX11_set 66 = .ok (.ireturn, 1) := by decide +kernel
set_option maxRecDepth 20000 in
theorem ggX11_lends_X11_areTwo : GoodIn wsX11_lends wsX11_areTwo := goodIn_r _ [7, 1, 8, 9, 10, 11, 12, 13, 33, 34, 35, 36, 37, 38, 39, 40, 41, 42, 43, 44, 45, 46, 47, 48, 49] (by decide +kernel) (by decide +kernel)
set_option maxRecDepth 20000 in
theorem gX11_lends_X11_areTwo : GoodIn wsX11_lends (wsV RX11 117 RX11 yX11_areTwo wsX11_areTwo) := goodIn_app (goodIn_of _ (by decide +kernel)) ggX11_lends_X11_areTwo
set_option maxRecDepth 20000 in
theorem ggX11_lends_X11_within : GoodIn wsX11_lends wsX11_within := goodIn_r _ [16] (by decide +kernel) (by decide +kernel)
set_option maxRecDepth 20000 in
theorem gX11_lends_X11_within : GoodIn wsX11_lends (va_wsS RX11 94 yX11_within wsX11_within) := goodIn_app (goodIn_of _ (by decide +kernel)) ggX11_lends_X11_within
set_option maxRecDepth 20000 in
theorem ggX11_lends_X4_canLend : GoodIn wsX11_lends wsX4_canLend := goodIn_r _ [20, 21, 22, 23, 24, 11, 25, 26, 27, 6, 28, 40, 41, 42, 43, 44, 45, 46, 47, 48, 49] (by decide +kernel) (by decide +kernel)
set_option maxRecDepth 20000 in
theorem gX11_lends_X4_canLend : GoodIn wsX11_lends (wsV RX11 121 RX4 yX4_canLend wsX4_canLend) := goodIn_app (goodIn_of _ (by decide +kernel)) ggX11_lends_X4_canLend
set_option maxRecDepth 20000 in
theorem ggX11_lends_X4_handOver : GoodIn wsX11_lends wsX4_handOver := goodIn_r _ [32, 21, 40, 41, 42, 43, 44, 45, 46, 47, 48, 49] (by decide +kernel) (by decide +kernel)
set_option maxRecDepth 20000 in
theorem gX11_lends_X4_handOver : GoodIn wsX11_lends (wsV RX11 124 RX4 yX4_handOver wsX4_handOver) := goodIn_app (goodIn_of _ (by decide +kernel)) ggX11_lends_X4_handOver
theorem dX11_lends_0 : decode cX11_lends 0 = .ok (.aload_n 0, 1) := by decide +kernel
theorem dX11_lends_1 : decode cX11_lends 1 = .ok (.iload_n 1, 1) := by decide +kernel
theorem dX11_lends_2 : decode cX11_lends 2 = .ok (.iload_n 2, 1) := by decide +kernel
theorem dX11_lends_3 : decode cX11_lends 3 = .ok (.invokevirtual 117, 3) := by decide +kernel
theorem dX11_lends_6 : decode cX11_lends 6 = .ok (.ifCond .eq 13, 3) := by decide +kernel
theorem dX11_lends_9 : decode cX11_lends 9 = .ok (.iload_n 3, 1) := by decide +kernel
theorem dX11_lends_10 : decode cX11_lends 10 = .ok (.iconst 1, 1) := by decide +kernel
theorem dX11_lends_11 : decode cX11_lends 11 = .ok (.bipush 99, 2) := by decide +kernel
theorem dX11_lends_13 : decode cX11_lends 13 = .ok (.invokestatic 94, 3) := by decide +kernel
theorem dX11_lends_16 : decode cX11_lends 16 = .ok (.ifCond .ne 5, 3) := by decide +kernel
theorem dX11_lends_19 : decode cX11_lends 19 = .ok (.iconst (-1), 1) := by decide +kernel
theorem dX11_lends_20 : decode cX11_lends 20 = .ok (.ireturn, 1) := by decide +kernel
theorem dX11_lends_21 : decode cX11_lends 21 = .ok (.aload_n 0, 1) := by decide +kernel
theorem dX11_lends_22 : decode cX11_lends 22 = .ok (.getfield 10, 3) := by decide +kernel
theorem dX11_lends_25 : decode cX11_lends 25 = .ok (.iload_n 1, 1) := by decide +kernel
theorem dX11_lends_26 : decode cX11_lends 26 = .ok (.iload_n 2, 1) := by decide +kernel
theorem dX11_lends_27 : decode cX11_lends 27 = .ok (.iload_n 3, 1) := by decide +kernel
theorem dX11_lends_28 : decode cX11_lends 28 = .ok (.invokevirtual 121, 3) := by decide +kernel
theorem dX11_lends_31 : decode cX11_lends 31 = .ok (.ifCond .ne 6, 3) := by decide +kernel
theorem dX11_lends_34 : decode cX11_lends 34 = .ok (.bipush (-3), 2) := by decide +kernel
theorem dX11_lends_36 : decode cX11_lends 36 = .ok (.ireturn, 1) := by decide +kernel
theorem dX11_lends_37 : decode cX11_lends 37 = .ok (.aload_n 0, 1) := by decide +kernel
theorem dX11_lends_38 : decode cX11_lends 38 = .ok (.getfield 10, 3) := by decide +kernel
theorem dX11_lends_41 : decode cX11_lends 41 = .ok (.iload_n 1, 1) := by decide +kernel
theorem dX11_lends_42 : decode cX11_lends 42 = .ok (.iload_n 2, 1) := by decide +kernel
theorem dX11_lends_43 : decode cX11_lends 43 = .ok (.iload_n 3, 1) := by decide +kernel
theorem dX11_lends_44 : decode cX11_lends 44 = .ok (.invokevirtual 124, 3) := by decide +kernel
theorem dX11_lends_47 : decode cX11_lends 47 = .ok (.aload_n 0, 1) := by decide +kernel
theorem dX11_lends_48 : decode cX11_lends 48 = .ok (.getfield 10, 3) := by decide +kernel
theorem dX11_lends_51 : decode cX11_lends 51 = .ok (.getfield 75, 3) := by decide +kernel
theorem dX11_lends_54 : decode cX11_lends 54 = .ok (.iload_n 1, 1) := by decide +kernel
theorem dX11_lends_55 : decode cX11_lends 55 = .ok (.iaload, 1) := by decide +kernel
theorem dX11_lends_56 : decode cX11_lends 56 = .ok (.ireturn, 1) := by decide +kernel
set_option maxRecDepth 20000 in
theorem ggX11_days_X11_within : GoodIn wsX11_days wsX11_within := goodIn_r _ [5] (by decide +kernel) (by decide +kernel)
set_option maxRecDepth 20000 in
theorem gX11_days_X11_within : GoodIn wsX11_days (va_wsS RX11 94 yX11_within wsX11_within) := goodIn_app (goodIn_of _ (by decide +kernel)) ggX11_days_X11_within
set_option maxRecDepth 20000 in
theorem ggX11_days_X4_hasDaysLeft : GoodIn wsX11_days wsX4_hasDaysLeft := goodIn_r _ [10, 11, 177, 178, 179, 180, 181, 182, 183, 184, 185, 186] (by decide +kernel) (by decide +kernel)
set_option maxRecDepth 20000 in
theorem gX11_days_X4_hasDaysLeft : GoodIn wsX11_days (wsV RX11 128 RX4 yX4_hasDaysLeft wsX4_hasDaysLeft) := goodIn_app (goodIn_of _ (by decide +kernel)) ggX11_days_X4_hasDaysLeft
set_option maxRecDepth 20000 in
theorem ggX11_days_X4_goOn : GoodIn wsX11_days wsX4_goOn := goodIn_r _ [15, 16, 17, 18, 9, 19, 11, 20, 21, 22, 23, 24, 25, 26, 27, 28, 29, 30, 31, 32, 33, 34, 4, 35, 36, 37, 38, 39, 40, 41, 42, 43, 44, 45, 46, 47, 48, 49, 50, 51, 52, 53, 54, 55, 56, 57, 58, 59, 60, 61, 62, 63, 64, 65, 66, 67, 68, 69, 70, 71, 72, 73, 74, 75, 76, 77, 78, 79, 80, 81, 82, 83, 84, 85, 86, 87, 88, 89, 90, 91, 92, 93, 94, 95, 96, 97, 98, 99, 100, 101, 102, 103, 104, 105, 106, 107, 108, 109, 110, 111, 112, 113, 114, 115, 116, 117, 118, 119, 120, 121, 122, 123, 124, 125, 126, 127, 128, 129, 130, 131, 132, 133, 134, 135, 136, 137, 138, 139, 140, 141, 142, 143, 144, 145, 146, 147, 148, 149, 150, 151, 152, 153, 154, 155, 156, 157, 158, 177, 178, 179, 180, 181, 182, 183, 184, 185, 186] (by decide +kernel) (by decide +kernel)
set_option maxRecDepth 20000 in
theorem gX11_days_X4_goOn : GoodIn wsX11_days (wsV RX11 131 RX4 yX4_goOn wsX4_goOn) := goodIn_app (goodIn_of _ (by decide +kernel)) ggX11_days_X4_goOn
set_option maxRecDepth 20000 in
theorem ggX11_days_X4_howManyThere : GoodIn wsX11_days wsX4_howManyThere := goodIn_r _ [162, 33, 163, 164, 165, 166, 167, 168, 169, 177, 178, 179, 180, 181, 182, 183, 184, 185, 186] (by decide +kernel) (by decide +kernel)
set_option maxRecDepth 20000 in
theorem gX11_days_X4_howManyThere : GoodIn wsX11_days (wsV RX11 135 RX4 yX4_howManyThere wsX4_howManyThere) := goodIn_app (goodIn_of _ (by decide +kernel)) ggX11_days_X4_howManyThere
theorem dX11_days_0 : decode cX11_days 0 = .ok (.iload_n 1, 1) := by decide +kernel
theorem dX11_days_1 : decode cX11_days 1 = .ok (.iconst 1, 1) := by decide +kernel
theorem dX11_days_2 : decode cX11_days 2 = .ok (.bipush 60, 2) := by decide +kernel
theorem dX11_days_4 : decode cX11_days 4 = .ok (.invokestatic 94, 3) := by decide +kernel
theorem dX11_days_7 : decode cX11_days 7 = .ok (.ifCond .ne 5, 3) := by decide +kernel
theorem dX11_days_10 : decode cX11_days 10 = .ok (.iconst (-1), 1) := by decide +kernel
theorem dX11_days_11 : decode cX11_days 11 = .ok (.ireturn, 1) := by decide +kernel
theorem dX11_days_12 : decode cX11_days 12 = .ok (.aload_n 0, 1) := by decide +kernel
theorem dX11_days_13 : decode cX11_days 13 = .ok (.getfield 10, 3) := by decide +kernel
theorem dX11_days_16 : decode cX11_days 16 = .ok (.iload_n 1, 1) := by decide +kernel
theorem dX11_days_17 : decode cX11_days 17 = .ok (.invokevirtual 128, 3) := by decide +kernel
theorem dX11_days_20 : decode cX11_days 20 = .ok (.ifCond .ne 6, 3) := by decide +kernel
theorem dX11_days_23 : decode cX11_days 23 = .ok (.bipush (-3), 2) := by decide +kernel
theorem dX11_days_25 : decode cX11_days 25 = .ok (.ireturn, 1) := by decide +kernel
theorem dX11_days_26 : decode cX11_days 26 = .ok (.aload_n 0, 1) := by decide +kernel
theorem dX11_days_27 : decode cX11_days 27 = .ok (.getfield 10, 3) := by decide +kernel
theorem dX11_days_30 : decode cX11_days 30 = .ok (.iload_n 1, 1) := by decide +kernel
theorem dX11_days_31 : decode cX11_days 31 = .ok (.invokevirtual 131, 3) := by decide +kernel
theorem dX11_days_34 : decode cX11_days 34 = .ok (.aload_n 0, 1) := by decide +kernel
theorem dX11_days_35 : decode cX11_days 35 = .ok (.getfield 10, 3) := by decide +kernel
theorem dX11_days_38 : decode cX11_days 38 = .ok (.invokevirtual 135, 3) := by decide +kernel
theorem dX11_days_41 : decode cX11_days 41 = .ok (.ireturn, 1) := by decide +kernel
set_option maxRecDepth 20000 in
theorem ggX11_tenantThen_X4_knows : GoodIn wsX11_tenantThen wsX4_knows := goodIn_r _ [9, 10, 177, 178, 179, 180, 181, 182, 183, 184, 185, 186] (by decide +kernel) (by decide +kernel)
set_option maxRecDepth 20000 in
theorem gX11_tenantThen_X4_knows : GoodIn wsX11_tenantThen (wsV RX11 65 RX4 yX4_knows wsX4_knows) := goodIn_app (goodIn_of _ (by decide +kernel)) ggX11_tenantThen_X4_knows
set_option maxRecDepth 20000 in
theorem ggX11_tenantThen_X11_within : GoodIn wsX11_tenantThen wsX11_within := goodIn_r _ [14] (by decide +kernel) (by decide +kernel)
set_option maxRecDepth 20000 in
theorem gX11_tenantThen_X11_within : GoodIn wsX11_tenantThen (va_wsS RX11 94 yX11_within wsX11_within) := goodIn_app (goodIn_of _ (by decide +kernel)) ggX11_tenantThen_X11_within
set_option maxRecDepth 20000 in
theorem ggX11_tenantThen_X4_become : GoodIn wsX11_tenantThen wsX4_become := goodIn_r _ [18, 19, 20, 21, 22, 23, 24, 25, 26, 10, 27, 28, 29, 30, 177, 178, 179, 180, 181, 182, 183, 184, 185, 186] (by decide +kernel) (by decide +kernel)
set_option maxRecDepth 20000 in
theorem gX11_tenantThen_X4_become : GoodIn wsX11_tenantThen (wsV RX11 50 RX4 yX4_become wsX4_become) := goodIn_app (goodIn_of _ (by decide +kernel)) ggX11_tenantThen_X4_become
set_option maxRecDepth 20000 in
theorem ggX11_tenantThen_X4_goOn : GoodIn wsX11_tenantThen wsX4_goOn := goodIn_r _ [34, 35, 36, 37, 8, 38, 30, 10, 25, 39, 40, 41, 42, 43, 44, 45, 46, 47, 48, 49, 27, 50, 13, 51, 52, 53, 54, 55, 56, 19, 24, 29, 57, 58, 59, 60, 61, 62, 63, 64, 65, 66, 67, 68, 69, 70, 71, 72, 73, 74, 75, 76, 77, 78, 79, 80, 81, 82, 83, 84, 85, 86, 87, 88, 89, 90, 91, 92, 93, 94, 95, 96, 97, 98, 99, 100, 101, 28, 102, 103, 104, 105, 106, 107, 108, 109, 110, 111, 112, 113, 114, 115, 116, 117, 118, 119, 120, 121, 122, 123, 124, 125, 126, 127, 128, 129, 130, 131, 132, 133, 134, 135, 136, 137, 138, 139, 140, 141, 142, 143, 144, 145, 146, 147, 148, 149, 150, 151, 152, 153, 154, 155, 156, 157, 158, 159, 160, 161, 162, 163, 164, 165, 26, 166, 167, 168, 169, 177, 178, 179, 180, 181, 182, 183, 184, 185, 186] (by decide +kernel) (by decide +kernel)
set_option maxRecDepth 20000 in
theorem gX11_tenantThen_X4_goOn : GoodIn wsX11_tenantThen (wsV RX11 131 RX4 yX4_goOn wsX4_goOn) := goodIn_app (goodIn_of _ (by decide +kernel)) ggX11_tenantThen_X4_goOn
theorem dX11_tenantThen_0 : decode cX11_tenantThen 0 = .ok (.aload_n 0, 1) := by decide +kernel
theorem dX11_tenantThen_1 : decode cX11_tenantThen 1 = .ok (.getfield 10, 3) := by decide +kernel
theorem dX11_tenantThen_4 : decode cX11_tenantThen 4 = .ok (.iload_n 1, 1) := by decide +kernel
theorem dX11_tenantThen_5 : decode cX11_tenantThen 5 = .ok (.invokevirtual 65, 3) := by decide +kernel
theorem dX11_tenantThen_8 : decode cX11_tenantThen 8 = .ok (.ifCond .eq 22, 3) := by decide +kernel
theorem dX11_tenantThen_11 : decode cX11_tenantThen 11 = .ok (.iload_n 2, 1) := by decide +kernel
theorem dX11_tenantThen_12 : decode cX11_tenantThen 12 = .ok (.iconst 0, 1) := by decide +kernel
theorem dX11_tenantThen_13 : decode cX11_tenantThen 13 = .ok (.bipush 60, 2) := by decide +kernel
theorem dX11_tenantThen_15 : decode cX11_tenantThen 15 = .ok (.invokestatic 94, 3) := by decide +kernel
theorem dX11_tenantThen_18 : decode cX11_tenantThen 18 = .ok (.ifCond .eq 12, 3) := by decide +kernel
theorem dX11_tenantThen_21 : decode cX11_tenantThen 21 = .ok (.iload_n 3, 1) := by decide +kernel
theorem dX11_tenantThen_22 : decode cX11_tenantThen 22 = .ok (.iconst 0, 1) := by decide +kernel
theorem dX11_tenantThen_23 : decode cX11_tenantThen 23 = .ok (.iconst 1, 1) := by decide +kernel
theorem dX11_tenantThen_24 : decode cX11_tenantThen 24 = .ok (.invokestatic 94, 3) := by decide +kernel
theorem dX11_tenantThen_27 : decode cX11_tenantThen 27 = .ok (.ifCond .ne 5, 3) := by decide +kernel
theorem dX11_tenantThen_30 : decode cX11_tenantThen 30 = .ok (.iconst (-1), 1) := by decide +kernel
theorem dX11_tenantThen_31 : decode cX11_tenantThen 31 = .ok (.ireturn, 1) := by decide +kernel
theorem dX11_tenantThen_32 : decode cX11_tenantThen 32 = .ok (.aload_n 0, 1) := by decide +kernel
theorem dX11_tenantThen_33 : decode cX11_tenantThen 33 = .ok (.getfield 19, 3) := by decide +kernel
theorem dX11_tenantThen_36 : decode cX11_tenantThen 36 = .ok (.aload_n 0, 1) := by decide +kernel
theorem dX11_tenantThen_37 : decode cX11_tenantThen 37 = .ok (.getfield 10, 3) := by decide +kernel
theorem dX11_tenantThen_40 : decode cX11_tenantThen 40 = .ok (.invokevirtual 50, 3) := by decide +kernel
theorem dX11_tenantThen_43 : decode cX11_tenantThen 43 = .ok (.aload_n 0, 1) := by decide +kernel
theorem dX11_tenantThen_44 : decode cX11_tenantThen 44 = .ok (.getfield 19, 3) := by decide +kernel
theorem dX11_tenantThen_47 : decode cX11_tenantThen 47 = .ok (.iload_n 2, 1) := by decide +kernel
theorem dX11_tenantThen_48 : decode cX11_tenantThen 48 = .ok (.invokevirtual 131, 3) := by decide +kernel
theorem dX11_tenantThen_51 : decode cX11_tenantThen 51 = .ok (.iload_n 3, 1) := by decide +kernel
theorem dX11_tenantThen_52 : decode cX11_tenantThen 52 = .ok (.ifCond .ne 15, 3) := by decide +kernel
theorem dX11_tenantThen_55 : decode cX11_tenantThen 55 = .ok (.aload_n 0, 1) := by decide +kernel
theorem dX11_tenantThen_56 : decode cX11_tenantThen 56 = .ok (.getfield 19, 3) := by decide +kernel
theorem dX11_tenantThen_59 : decode cX11_tenantThen 59 = .ok (.getfield 75, 3) := by decide +kernel
theorem dX11_tenantThen_62 : decode cX11_tenantThen 62 = .ok (.iload_n 1, 1) := by decide +kernel
theorem dX11_tenantThen_63 : decode cX11_tenantThen 63 = .ok (.iaload, 1) := by decide +kernel
theorem dX11_tenantThen_64 : decode cX11_tenantThen 64 = .ok (.goto 12, 3) := by decide +kernel
theorem dX11_tenantThen_67 : decode cX11_tenantThen 67 = .ok (.aload_n 0, 1) := by decide +kernel
theorem dX11_tenantThen_68 : decode cX11_tenantThen 68 = .ok (.getfield 19, 3) := by decide +kernel
theorem dX11_tenantThen_71 : decode cX11_tenantThen 71 = .ok (.getfield 78, 3) := by decide +kernel
theorem dX11_tenantThen_74 : decode cX11_tenantThen 74 = .ok (.iload_n 1, 1) := by decide +kernel
theorem dX11_tenantThen_75 : decode cX11_tenantThen 75 = .ok (.iaload, 1) := by decide +kernel
theorem dX11_tenantThen_76 : decode cX11_tenantThen 76 = .ok (.ireturn, 1) := by decide +kernel
set_option maxRecDepth 20000 in
theorem ggX11_then_X11_within : GoodIn wsX11_then wsX11_within := goodIn_r _ [8] (by decide +kernel) (by decide +kernel)
set_option maxRecDepth 20000 in
theorem gX11_then_X11_within : GoodIn wsX11_then (va_wsS RX11 94 yX11_within wsX11_within) := goodIn_app (goodIn_of _ (by decide +kernel)) ggX11_then_X11_within
set_option maxRecDepth 20000 in
theorem ggX11_then_X4_become : GoodIn wsX11_then wsX4_become := goodIn_r _ [13, 14, 15, 16, 17, 18, 19, 20, 21, 22, 23, 24, 25, 26, 173, 174, 175, 176, 177, 178, 179, 180, 181, 182] (by decide +kernel) (by decide +kernel)
set_option maxRecDepth 20000 in
theorem gX11_then_X4_become : GoodIn wsX11_then (wsV RX11 50 RX4 yX4_become wsX4_become) := goodIn_app (goodIn_of _ (by decide +kernel)) ggX11_then_X4_become
set_option maxRecDepth 20000 in
theorem ggX11_then_X4_goOn : GoodIn wsX11_then wsX4_goOn := goodIn_r _ [30, 31, 32, 33, 12, 34, 26, 22, 20, 35, 36, 37, 38, 39, 40, 41, 42, 43, 44, 45, 23, 46, 7, 47, 48, 49, 50, 51, 52, 14, 19, 25, 53, 54, 55, 56, 57, 58, 59, 60, 61, 62, 63, 64, 65, 66, 67, 68, 69, 70, 71, 72, 73, 74, 75, 76, 77, 78, 79, 80, 81, 82, 83, 84, 85, 86, 87, 88, 89, 90, 91, 92, 93, 94, 95, 96, 97, 24, 98, 99, 100, 101, 102, 103, 104, 105, 106, 107, 108, 109, 110, 111, 112, 113, 114, 115, 116, 117, 118, 119, 120, 121, 122, 123, 124, 125, 126, 127, 128, 129, 130, 131, 132, 133, 134, 135, 136, 137, 138, 139, 140, 141, 142, 143, 144, 145, 146, 147, 148, 149, 150, 151, 152, 153, 154, 155, 156, 157, 158, 159, 160, 161, 21, 162, 163, 164, 165, 173, 174, 175, 176, 177, 178, 179, 180, 181, 182] (by decide +kernel) (by decide +kernel)
set_option maxRecDepth 20000 in
theorem gX11_then_X4_goOn : GoodIn wsX11_then (wsV RX11 131 RX4 yX4_goOn wsX4_goOn) := goodIn_app (goodIn_of _ (by decide +kernel)) ggX11_then_X4_goOn
theorem dX11_then_0 : decode cX11_then 0 = .ok (.iload_n 1, 1) := by decide +kernel
theorem dX11_then_1 : decode cX11_then 1 = .ok (.iconst 0, 1) := by decide +kernel
theorem dX11_then_2 : decode cX11_then 2 = .ok (.bipush 60, 2) := by decide +kernel
theorem dX11_then_4 : decode cX11_then 4 = .ok (.invokestatic 94, 3) := by decide +kernel
theorem dX11_then_7 : decode cX11_then 7 = .ok (.ifCond .eq 12, 3) := by decide +kernel
theorem dX11_then_10 : decode cX11_then 10 = .ok (.iload_n 2, 1) := by decide +kernel
theorem dX11_then_11 : decode cX11_then 11 = .ok (.iconst 0, 1) := by decide +kernel
theorem dX11_then_12 : decode cX11_then 12 = .ok (.iconst 1, 1) := by decide +kernel
theorem dX11_then_13 : decode cX11_then 13 = .ok (.invokestatic 94, 3) := by decide +kernel
theorem dX11_then_16 : decode cX11_then 16 = .ok (.ifCond .ne 5, 3) := by decide +kernel
theorem dX11_then_19 : decode cX11_then 19 = .ok (.iconst (-1), 1) := by decide +kernel
theorem dX11_then_20 : decode cX11_then 20 = .ok (.ireturn, 1) := by decide +kernel
theorem dX11_then_21 : decode cX11_then 21 = .ok (.aload_n 0, 1) := by decide +kernel
theorem dX11_then_22 : decode cX11_then 22 = .ok (.getfield 19, 3) := by decide +kernel
theorem dX11_then_25 : decode cX11_then 25 = .ok (.aload_n 0, 1) := by decide +kernel
theorem dX11_then_26 : decode cX11_then 26 = .ok (.getfield 10, 3) := by decide +kernel
theorem dX11_then_29 : decode cX11_then 29 = .ok (.invokevirtual 50, 3) := by decide +kernel
theorem dX11_then_32 : decode cX11_then 32 = .ok (.aload_n 0, 1) := by decide +kernel
theorem dX11_then_33 : decode cX11_then 33 = .ok (.getfield 19, 3) := by decide +kernel
theorem dX11_then_36 : decode cX11_then 36 = .ok (.iload_n 1, 1) := by decide +kernel
theorem dX11_then_37 : decode cX11_then 37 = .ok (.invokevirtual 131, 3) := by decide +kernel
theorem dX11_then_40 : decode cX11_then 40 = .ok (.iload_n 2, 1) := by decide +kernel
theorem dX11_then_41 : decode cX11_then 41 = .ok (.ifCond .ne 13, 3) := by decide +kernel
theorem dX11_then_44 : decode cX11_then 44 = .ok (.aload_n 0, 1) := by decide +kernel
theorem dX11_then_45 : decode cX11_then 45 = .ok (.getfield 19, 3) := by decide +kernel
theorem dX11_then_48 : decode cX11_then 48 = .ok (.getfield 139, 3) := by decide +kernel
theorem dX11_then_51 : decode cX11_then 51 = .ok (.goto 10, 3) := by decide +kernel
theorem dX11_then_54 : decode cX11_then 54 = .ok (.aload_n 0, 1) := by decide +kernel
theorem dX11_then_55 : decode cX11_then 55 = .ok (.getfield 19, 3) := by decide +kernel
theorem dX11_then_58 : decode cX11_then 58 = .ok (.getfield 114, 3) := by decide +kernel
theorem dX11_then_61 : decode cX11_then 61 = .ok (.ireturn, 1) := by decide +kernel
set_option maxRecDepth 20000 in
theorem ggX11_goes_X11_firstToGo : GoodIn wsX11_goes wsX11_firstToGo := goodIn_r _ [6, 7, 1, 8, 9, 10, 11, 12, 13, 14, 15, 16, 17, 18, 19, 20, 21, 22, 23, 24, 25, 26, 27, 28, 29, 30, 31, 32, 33, 34, 35, 36, 37, 38, 39, 40, 41, 42, 5, 43, 44, 45, 46, 47, 48, 49, 50, 51, 52, 53, 54, 55, 56, 57, 58, 59, 60, 61, 62, 63, 64, 65, 66, 67, 68, 69, 70, 71, 72, 73, 74, 75, 76, 77, 78, 79, 80, 81, 82, 83, 84, 85, 86, 87, 88, 89, 90, 91, 92, 93, 94, 95, 96, 97, 98, 99, 100, 101, 102, 103, 104, 105, 106, 107, 108, 109, 110, 111, 112, 113, 114, 115, 116, 117, 118, 119, 120, 121, 122, 123, 124, 125, 126, 127, 128, 129, 130, 131, 132, 133, 134, 135, 136, 137, 138, 139, 140, 141, 142, 143, 144, 145, 146, 147, 148, 149, 150, 151, 152, 153, 154, 155, 156, 157, 158, 159, 160, 161, 162, 163, 164, 165, 166, 175, 176, 177, 178, 179, 180, 181, 182, 183, 184, 185, 186, 187, 188, 189, 190, 191] (by decide +kernel) (by decide +kernel)
set_option maxRecDepth 20000 in
theorem gX11_goes_X11_firstToGo : GoodIn wsX11_goes (wsV RX11 142 RX11 yX11_firstToGo wsX11_firstToGo) := goodIn_app (goodIn_of _ (by decide +kernel)) ggX11_goes_X11_firstToGo
set_option maxRecDepth 20000 in
theorem ggX11_goes_X4_knows : GoodIn wsX11_goes wsX4_knows := goodIn_r _ [170, 22, 182, 183, 184, 185, 186, 187, 188, 189, 190, 191] (by decide +kernel) (by decide +kernel)
set_option maxRecDepth 20000 in
theorem gX11_goes_X4_knows : GoodIn wsX11_goes (wsV RX11 65 RX4 yX4_knows wsX4_knows) := goodIn_app (goodIn_of _ (by decide +kernel)) ggX11_goes_X4_knows
set_option maxRecDepth 20000 in
theorem ggX11_goes_X11_daysUntilNoneOf : GoodIn wsX11_goes wsX11_daysUntilNoneOf := goodIn_r _ [174, 7, 1, 8, 9, 10, 11, 12, 13, 14, 15, 16, 17, 18, 19, 20, 21, 22, 23, 24, 25, 26, 27, 28, 29, 30, 31, 32, 33, 34, 35, 36, 37, 38, 39, 40, 41, 42, 5, 43, 44, 45, 46, 47, 48, 49, 50, 51, 52, 53, 54, 55, 56, 57, 58, 59, 60, 61, 62, 63, 64, 65, 66, 67, 68, 69, 70, 71, 72, 73, 74, 75, 76, 77, 78, 79, 80, 81, 82, 83, 84, 85, 86, 87, 88, 89, 90, 91, 92, 93, 94, 95, 96, 97, 98, 99, 100, 101, 102, 103, 104, 105, 106, 107, 108, 109, 110, 111, 112, 113, 114, 115, 116, 117, 118, 119, 120, 121, 122, 123, 124, 125, 126, 127, 128, 129, 130, 131, 132, 133, 134, 135, 136, 137, 138, 139, 140, 141, 142, 143, 144, 145, 146, 147, 148, 149, 150, 151, 152, 153, 154, 155, 156, 157, 158, 159, 160, 161, 175, 176, 177, 178, 179, 180, 181, 182, 183, 184, 185, 186, 187, 188, 189, 190, 191] (by decide +kernel) (by decide +kernel)
set_option maxRecDepth 20000 in
theorem gX11_goes_X11_daysUntilNoneOf : GoodIn wsX11_goes (wsV RX11 145 RX11 yX11_daysUntilNoneOf wsX11_daysUntilNoneOf) := goodIn_app (goodIn_of _ (by decide +kernel)) ggX11_goes_X11_daysUntilNoneOf
theorem dX11_goes_0 : decode cX11_goes 0 = .ok (.iload_n 1, 1) := by decide +kernel
theorem dX11_goes_1 : decode cX11_goes 1 = .ok (.iconst (-1), 1) := by decide +kernel
theorem dX11_goes_2 : decode cX11_goes 2 = .ok (.if_icmp .ne 8, 3) := by decide +kernel
theorem dX11_goes_5 : decode cX11_goes 5 = .ok (.aload_n 0, 1) := by decide +kernel
theorem dX11_goes_6 : decode cX11_goes 6 = .ok (.invokevirtual 142, 3) := by decide +kernel
theorem dX11_goes_9 : decode cX11_goes 9 = .ok (.ireturn, 1) := by decide +kernel
theorem dX11_goes_10 : decode cX11_goes 10 = .ok (.aload_n 0, 1) := by decide +kernel
theorem dX11_goes_11 : decode cX11_goes 11 = .ok (.getfield 10, 3) := by decide +kernel
theorem dX11_goes_14 : decode cX11_goes 14 = .ok (.iload_n 1, 1) := by decide +kernel
theorem dX11_goes_15 : decode cX11_goes 15 = .ok (.invokevirtual 65, 3) := by decide +kernel
theorem dX11_goes_18 : decode cX11_goes 18 = .ok (.ifCond .ne 5, 3) := by decide +kernel
theorem dX11_goes_21 : decode cX11_goes 21 = .ok (.iconst (-1), 1) := by decide +kernel
theorem dX11_goes_22 : decode cX11_goes 22 = .ok (.ireturn, 1) := by decide +kernel
theorem dX11_goes_23 : decode cX11_goes 23 = .ok (.aload_n 0, 1) := by decide +kernel
theorem dX11_goes_24 : decode cX11_goes 24 = .ok (.iconst 1, 1) := by decide +kernel
theorem dX11_goes_25 : decode cX11_goes 25 = .ok (.iload_n 1, 1) := by decide +kernel
theorem dX11_goes_26 : decode cX11_goes 26 = .ok (.ishl, 1) := by decide +kernel
theorem dX11_goes_27 : decode cX11_goes 27 = .ok (.invokevirtual 145, 3) := by decide +kernel
theorem dX11_goes_30 : decode cX11_goes 30 = .ok (.ireturn, 1) := by decide +kernel
set_option maxRecDepth 20000 in
theorem ggX11_empty_X11_daysUntilNoneOf : GoodIn wsX11_empty wsX11_daysUntilNoneOf := goodIn_r _ [7, 8, 1, 2, 9, 10, 11, 12, 13, 14, 15, 16, 17, 18, 19, 20, 21, 22, 23, 24, 25, 26, 27, 28, 29, 30, 31, 32, 33, 34, 35, 36, 37, 38, 39, 40, 41, 42, 6, 43, 44, 45, 46, 47, 48, 49, 50, 51, 52, 53, 54, 55, 56, 57, 58, 59, 60, 61, 62, 63, 64, 65, 66, 67, 68, 69, 70, 71, 72, 73, 74, 75, 76, 77, 78, 79, 80, 81, 82, 83, 84, 85, 86, 87, 88, 89, 90, 91, 92, 93, 94, 95, 96, 97, 98, 99, 100, 101, 102, 103, 104, 105, 106, 107, 108, 109, 110, 111, 112, 113, 114, 115, 116, 117, 118, 119, 120, 121, 122, 123, 124, 125, 126, 127, 128, 129, 130, 131, 132, 133, 134, 135, 136, 137, 138, 139, 140, 141, 142, 143, 144, 145, 146, 147, 148, 149, 150, 151, 152, 153, 154, 155, 156, 157, 158, 159, 160, 161, 162, 163, 164, 165, 166, 167, 168, 169, 170, 171, 172, 173, 174, 175, 176, 177, 178] (by decide +kernel) (by decide +kernel)
set_option maxRecDepth 20000 in
theorem gX11_empty_X11_daysUntilNoneOf : GoodIn wsX11_empty (wsV RX11 145 RX11 yX11_daysUntilNoneOf wsX11_daysUntilNoneOf) := goodIn_app (goodIn_of _ (by decide +kernel)) ggX11_empty_X11_daysUntilNoneOf
theorem dX11_empty_0 : decode cX11_empty 0 = .ok (.aload_n 0, 1) := by decide +kernel
theorem dX11_empty_1 : decode cX11_empty 1 = .ok (.aload_n 0, 1) := by decide +kernel
theorem dX11_empty_2 : decode cX11_empty 2 = .ok (.getfield 10, 3) := by decide +kernel
theorem dX11_empty_5 : decode cX11_empty 5 = .ok (.getfield 139, 3) := by decide +kernel
theorem dX11_empty_8 : decode cX11_empty 8 = .ok (.invokevirtual 145, 3) := by decide +kernel
theorem dX11_empty_11 : decode cX11_empty 11 = .ok (.ireturn, 1) := by decide +kernel
set_option maxRecDepth 20000 in
theorem ggX11_rent_X11_within : GoodIn wsX11_rent wsX11_within := goodIn_r _ [6] (by decide +kernel) (by decide +kernel)
set_option maxRecDepth 20000 in
theorem gX11_rent_X11_within : GoodIn wsX11_rent (va_wsS RX11 94 yX11_within wsX11_within) := goodIn_app (goodIn_of _ (by decide +kernel)) ggX11_rent_X11_within
set_option maxRecDepth 20000 in
theorem ggX11_rent_X4_wants : GoodIn wsX11_rent wsX4_wants := goodIn_r _ [11, 12, 13, 14, 15, 16, 17, 18, 19, 20, 21, 22, 23, 10, 24, 25, 26, 5, 27, 28, 29, 30, 31, 32, 33, 34, 35, 36, 37, 38, 39, 40, 41, 42, 43, 44, 45, 46, 47, 48, 49, 50, 51, 180, 181, 182, 183, 184, 185, 186, 187, 188, 189] (by decide +kernel) (by decide +kernel)
set_option maxRecDepth 20000 in
theorem gX11_rent_X4_wants : GoodIn wsX11_rent (wsV RX11 148 RX4 yX4_wants wsX4_wants) := goodIn_app (goodIn_of _ (by decide +kernel)) ggX11_rent_X4_wants
set_option maxRecDepth 20000 in
theorem ggX11_rent_X4_become : GoodIn wsX11_rent wsX4_become := goodIn_r _ [55, 15, 56, 57, 58, 59, 60, 61, 62, 13, 25, 16, 12, 63, 180, 181, 182, 183, 184, 185, 186, 187, 188, 189] (by decide +kernel) (by decide +kernel)
set_option maxRecDepth 20000 in
theorem gX11_rent_X4_become : GoodIn wsX11_rent (wsV RX11 50 RX4 yX4_become wsX4_become) := goodIn_app (goodIn_of _ (by decide +kernel)) ggX11_rent_X4_become
set_option maxRecDepth 20000 in
theorem ggX11_rent_X4_goOnToRent : GoodIn wsX11_rent wsX4_goOnToRent := goodIn_r _ [67, 68, 69, 70, 10, 71, 63, 72, 73, 74, 75, 76, 77, 78, 79, 13, 61, 80, 81, 19, 82, 17, 18, 20, 21, 22, 23, 24, 25, 26, 5, 27, 83, 84, 85, 86, 14, 15, 60, 12, 87, 88, 89, 90, 91, 92, 93, 94, 95, 96, 37, 97, 98, 99, 100, 32, 101, 102, 103, 104, 105, 106, 107, 108, 109, 110, 111, 112, 113, 114, 115, 116, 117, 118, 119, 120, 47, 121, 122, 123, 51, 124, 125, 126, 127, 16, 128, 8, 9, 11, 28, 29, 30, 31, 33, 34, 35, 36, 38, 39, 40, 41, 42, 43, 44, 45, 46, 48, 49, 50, 129, 130, 131, 132, 133, 134, 135, 136, 137, 138, 139, 140, 141, 142, 143, 144, 145, 146, 147, 148, 149, 150, 151, 152, 153, 154, 155, 156, 157, 158, 159, 160, 161, 162, 163, 164, 165, 166, 167, 168, 62, 169, 170, 171, 172, 180, 181, 182, 183, 184, 185, 186, 187, 188, 189] (by decide +kernel) (by decide +kernel)
set_option maxRecDepth 20000 in
theorem gX11_rent_X4_goOnToRent : GoodIn wsX11_rent (wsV RX11 151 RX4 yX4_goOnToRent wsX4_goOnToRent) := goodIn_app (goodIn_of _ (by decide +kernel)) ggX11_rent_X4_goOnToRent
theorem dX11_rent_0 : decode cX11_rent 0 = .ok (.iload_n 1, 1) := by decide +kernel
theorem dX11_rent_1 : decode cX11_rent 1 = .ok (.iconst 0, 1) := by decide +kernel
theorem dX11_rent_2 : decode cX11_rent 2 = .ok (.iconst 1, 1) := by decide +kernel
theorem dX11_rent_3 : decode cX11_rent 3 = .ok (.invokestatic 94, 3) := by decide +kernel
theorem dX11_rent_6 : decode cX11_rent 6 = .ok (.ifCond .ne 5, 3) := by decide +kernel
theorem dX11_rent_9 : decode cX11_rent 9 = .ok (.iconst (-1), 1) := by decide +kernel
theorem dX11_rent_10 : decode cX11_rent 10 = .ok (.ireturn, 1) := by decide +kernel
theorem dX11_rent_11 : decode cX11_rent 11 = .ok (.iload_n 1, 1) := by decide +kernel
theorem dX11_rent_12 : decode cX11_rent 12 = .ok (.ifCond .ne 11, 3) := by decide +kernel
theorem dX11_rent_15 : decode cX11_rent 15 = .ok (.aload_n 0, 1) := by decide +kernel
theorem dX11_rent_16 : decode cX11_rent 16 = .ok (.getfield 10, 3) := by decide +kernel
theorem dX11_rent_19 : decode cX11_rent 19 = .ok (.invokevirtual 148, 3) := by decide +kernel
theorem dX11_rent_22 : decode cX11_rent 22 = .ok (.ireturn, 1) := by decide +kernel
theorem dX11_rent_23 : decode cX11_rent 23 = .ok (.aload_n 0, 1) := by decide +kernel
theorem dX11_rent_24 : decode cX11_rent 24 = .ok (.getfield 19, 3) := by decide +kernel
theorem dX11_rent_27 : decode cX11_rent 27 = .ok (.aload_n 0, 1) := by decide +kernel
theorem dX11_rent_28 : decode cX11_rent 28 = .ok (.getfield 10, 3) := by decide +kernel
theorem dX11_rent_31 : decode cX11_rent 31 = .ok (.invokevirtual 50, 3) := by decide +kernel
theorem dX11_rent_34 : decode cX11_rent 34 = .ok (.aload_n 0, 1) := by decide +kernel
theorem dX11_rent_35 : decode cX11_rent 35 = .ok (.getfield 19, 3) := by decide +kernel
theorem dX11_rent_38 : decode cX11_rent 38 = .ok (.invokevirtual 151, 3) := by decide +kernel
theorem dX11_rent_41 : decode cX11_rent 41 = .ok (.ireturn, 1) := by decide +kernel
set_option maxRecDepth 20000 in
theorem ggX11_firstToGo_X4_become : GoodIn wsX11_firstToGo wsX4_become := goodIn_r _ [8, 9, 10, 11, 12, 13, 14, 15, 16, 17, 18, 19, 20, 21, 170, 171, 172, 173, 174, 175, 176, 177, 178, 179] (by decide +kernel) (by decide +kernel)
set_option maxRecDepth 20000 in
theorem gX11_firstToGo_X4_become : GoodIn wsX11_firstToGo (wsV RX11 50 RX4 yX4_become wsX4_become) := goodIn_app (goodIn_of _ (by decide +kernel)) ggX11_firstToGo_X4_become
set_option maxRecDepth 20000 in
theorem ggX11_firstToGo_X4_oneDay : GoodIn wsX11_firstToGo wsX4_oneDay := goodIn_r _ [25, 21, 17, 15, 26, 27, 28, 29, 30, 31, 32, 33, 34, 35, 7, 36, 18, 37, 38, 39, 40, 41, 42, 43, 44, 9, 14, 20, 45, 46, 47, 48, 49, 50, 51, 52, 53, 54, 55, 56, 57, 58, 59, 60, 61, 62, 63, 64, 65, 66, 67, 68, 69, 70, 71, 72, 73, 74, 75, 76, 77, 78, 79, 80, 81, 82, 83, 84, 85, 86, 87, 88, 89, 19, 90, 91, 92, 93, 94, 95, 96, 97, 98, 99, 100, 101, 102, 103, 104, 105, 106, 107, 108, 109, 110, 111, 112, 113, 114, 115, 116, 117, 118, 119, 120, 121, 122, 123, 124, 125, 126, 127, 128, 129, 130, 131, 132, 133, 134, 135, 136, 137, 138, 139, 140, 141, 142, 143, 144, 145, 146, 147, 148, 149, 150, 151, 152, 153, 16, 154, 155, 156, 157, 170, 171, 172, 173, 174, 175, 176, 177, 178, 179] (by decide +kernel) (by decide +kernel)
set_option maxRecDepth 20000 in
theorem gX11_firstToGo_X4_oneDay : GoodIn wsX11_firstToGo (wsV RX11 154 RX4 yX4_oneDay wsX4_oneDay) := goodIn_app (goodIn_of _ (by decide +kernel)) ggX11_firstToGo_X4_oneDay
set_option maxRecDepth 20000 in
theorem ggX11_firstToGo_J6_numberOfTrailingZeros_0f7a4 : GoodIn wsX11_firstToGo wsJ6_numberOfTrailingZeros_0f7a4 := goodIn_r _ [161, 162] (by decide +kernel) (by decide +kernel)
set_option maxRecDepth 20000 in
theorem gX11_firstToGo_J6_numberOfTrailingZeros_0f7a4 : GoodIn wsX11_firstToGo (va_wsS RX11 157 yJ6_numberOfTrailingZeros_0f7a4 wsJ6_numberOfTrailingZeros_0f7a4) := goodIn_app (goodIn_of _ (by decide +kernel)) ggX11_firstToGo_J6_numberOfTrailingZeros_0f7a4
theorem dX11_firstToGo_0 : decode cX11_firstToGo 0 = .ok (.aload_n 0, 1) := by decide +kernel
theorem dX11_firstToGo_1 : decode cX11_firstToGo 1 = .ok (.getfield 19, 3) := by decide +kernel
theorem dX11_firstToGo_4 : decode cX11_firstToGo 4 = .ok (.aload_n 0, 1) := by decide +kernel
theorem dX11_firstToGo_5 : decode cX11_firstToGo 5 = .ok (.getfield 10, 3) := by decide +kernel
theorem dX11_firstToGo_8 : decode cX11_firstToGo 8 = .ok (.invokevirtual 50, 3) := by decide +kernel
theorem dX11_firstToGo_11 : decode cX11_firstToGo 11 = .ok (.iconst 1, 1) := by decide +kernel
theorem dX11_firstToGo_12 : decode cX11_firstToGo 12 = .ok (.istore_n 1, 1) := by decide +kernel
theorem dX11_firstToGo_13 : decode cX11_firstToGo 13 = .ok (.iload_n 1, 1) := by decide +kernel
theorem dX11_firstToGo_14 : decode cX11_firstToGo 14 = .ok (.bipush 60, 2) := by decide +kernel
theorem dX11_firstToGo_16 : decode cX11_firstToGo 16 = .ok (.if_icmp .gt 44, 3) := by decide +kernel
theorem dX11_firstToGo_19 : decode cX11_firstToGo 19 = .ok (.aload_n 0, 1) := by decide +kernel
theorem dX11_firstToGo_20 : decode cX11_firstToGo 20 = .ok (.getfield 19, 3) := by decide +kernel
theorem dX11_firstToGo_23 : decode cX11_firstToGo 23 = .ok (.invokevirtual 154, 3) := by decide +kernel
theorem dX11_firstToGo_26 : decode cX11_firstToGo 26 = .ok (.pop, 1) := by decide +kernel
theorem dX11_firstToGo_27 : decode cX11_firstToGo 27 = .ok (.aload_n 0, 1) := by decide +kernel
theorem dX11_firstToGo_28 : decode cX11_firstToGo 28 = .ok (.getfield 10, 3) := by decide +kernel
theorem dX11_firstToGo_31 : decode cX11_firstToGo 31 = .ok (.getfield 139, 3) := by decide +kernel
theorem dX11_firstToGo_34 : decode cX11_firstToGo 34 = .ok (.aload_n 0, 1) := by decide +kernel
theorem dX11_firstToGo_35 : decode cX11_firstToGo 35 = .ok (.getfield 19, 3) := by decide +kernel
theorem dX11_firstToGo_38 : decode cX11_firstToGo 38 = .ok (.getfield 139, 3) := by decide +kernel
theorem dX11_firstToGo_41 : decode cX11_firstToGo 41 = .ok (.iconst (-1), 1) := by decide +kernel
theorem dX11_firstToGo_42 : decode cX11_firstToGo 42 = .ok (.ixor, 1) := by decide +kernel
theorem dX11_firstToGo_43 : decode cX11_firstToGo 43 = .ok (.iand, 1) := by decide +kernel
theorem dX11_firstToGo_44 : decode cX11_firstToGo 44 = .ok (.istore_n 2, 1) := by decide +kernel
theorem dX11_firstToGo_45 : decode cX11_firstToGo 45 = .ok (.iload_n 2, 1) := by decide +kernel
theorem dX11_firstToGo_46 : decode cX11_firstToGo 46 = .ok (.ifCond .eq 8, 3) := by decide +kernel
theorem dX11_firstToGo_49 : decode cX11_firstToGo 49 = .ok (.iload_n 2, 1) := by decide +kernel
theorem dX11_firstToGo_50 : decode cX11_firstToGo 50 = .ok (.invokestatic 157, 3) := by decide +kernel
theorem dX11_firstToGo_53 : decode cX11_firstToGo 53 = .ok (.ireturn, 1) := by decide +kernel
theorem dX11_firstToGo_54 : decode cX11_firstToGo 54 = .ok (.iinc 1 1, 3) := by decide +kernel
theorem dX11_firstToGo_57 : decode cX11_firstToGo 57 = .ok (.goto (-44), 3) := by decide +kernel
theorem dX11_firstToGo_60 : decode cX11_firstToGo 60 = .ok (.bipush (-4), 2) := by decide +kernel
theorem dX11_firstToGo_62 : decode cX11_firstToGo 62 = .ok (.ireturn, 1) := by decide +kernel
set_option maxRecDepth 20000 in
theorem ggX11_daysUntilNoneOf_X4_become : GoodIn wsX11_daysUntilNoneOf wsX4_become := goodIn_r _ [8, 9, 10, 11, 12, 13, 14, 15, 16, 17, 18, 19, 20, 21, 165, 166, 167, 168, 169, 170, 171, 172, 173, 174] (by decide +kernel) (by decide +kernel)
set_option maxRecDepth 20000 in
theorem gX11_daysUntilNoneOf_X4_become : GoodIn wsX11_daysUntilNoneOf (wsV RX11 50 RX4 yX4_become wsX4_become) := goodIn_app (goodIn_of _ (by decide +kernel)) ggX11_daysUntilNoneOf_X4_become
set_option maxRecDepth 20000 in
theorem ggX11_daysUntilNoneOf_X4_oneDay : GoodIn wsX11_daysUntilNoneOf wsX4_oneDay := goodIn_r _ [25, 21, 17, 15, 26, 27, 28, 29, 30, 31, 32, 33, 34, 35, 7, 36, 18, 37, 38, 39, 40, 41, 42, 43, 44, 9, 14, 20, 45, 46, 47, 48, 49, 50, 51, 52, 53, 54, 55, 56, 57, 58, 59, 60, 61, 62, 63, 64, 65, 66, 67, 68, 69, 70, 71, 72, 73, 74, 75, 76, 77, 78, 79, 80, 81, 82, 83, 84, 85, 86, 87, 88, 89, 19, 90, 91, 92, 93, 94, 95, 96, 97, 98, 99, 100, 101, 102, 103, 104, 105, 106, 107, 108, 109, 110, 111, 112, 113, 114, 115, 116, 117, 118, 119, 120, 121, 122, 123, 124, 125, 126, 127, 128, 129, 130, 131, 132, 133, 134, 135, 136, 137, 138, 139, 140, 141, 142, 143, 144, 145, 146, 147, 148, 149, 150, 151, 152, 153, 16, 154, 155, 156, 157, 165, 166, 167, 168, 169, 170, 171, 172, 173, 174] (by decide +kernel) (by decide +kernel)
set_option maxRecDepth 20000 in
theorem gX11_daysUntilNoneOf_X4_oneDay : GoodIn wsX11_daysUntilNoneOf (wsV RX11 154 RX4 yX4_oneDay wsX4_oneDay) := goodIn_app (goodIn_of _ (by decide +kernel)) ggX11_daysUntilNoneOf_X4_oneDay
theorem dX11_daysUntilNoneOf_0 : decode cX11_daysUntilNoneOf 0 = .ok (.aload_n 0, 1) := by decide +kernel
theorem dX11_daysUntilNoneOf_1 : decode cX11_daysUntilNoneOf 1 = .ok (.getfield 19, 3) := by decide +kernel
theorem dX11_daysUntilNoneOf_4 : decode cX11_daysUntilNoneOf 4 = .ok (.aload_n 0, 1) := by decide +kernel
theorem dX11_daysUntilNoneOf_5 : decode cX11_daysUntilNoneOf 5 = .ok (.getfield 10, 3) := by decide +kernel
theorem dX11_daysUntilNoneOf_8 : decode cX11_daysUntilNoneOf 8 = .ok (.invokevirtual 50, 3) := by decide +kernel
theorem dX11_daysUntilNoneOf_11 : decode cX11_daysUntilNoneOf 11 = .ok (.iconst 0, 1) := by decide +kernel
theorem dX11_daysUntilNoneOf_12 : decode cX11_daysUntilNoneOf 12 = .ok (.istore_n 2, 1) := by decide +kernel
theorem dX11_daysUntilNoneOf_13 : decode cX11_daysUntilNoneOf 13 = .ok (.iload_n 2, 1) := by decide +kernel
theorem dX11_daysUntilNoneOf_14 : decode cX11_daysUntilNoneOf 14 = .ok (.bipush 60, 2) := by decide +kernel
theorem dX11_daysUntilNoneOf_16 : decode cX11_daysUntilNoneOf 16 = .ok (.if_icmp .gt 31, 3) := by decide +kernel
theorem dX11_daysUntilNoneOf_19 : decode cX11_daysUntilNoneOf 19 = .ok (.aload_n 0, 1) := by decide +kernel
theorem dX11_daysUntilNoneOf_20 : decode cX11_daysUntilNoneOf 20 = .ok (.getfield 19, 3) := by decide +kernel
theorem dX11_daysUntilNoneOf_23 : decode cX11_daysUntilNoneOf 23 = .ok (.getfield 139, 3) := by decide +kernel
theorem dX11_daysUntilNoneOf_26 : decode cX11_daysUntilNoneOf 26 = .ok (.iload_n 1, 1) := by decide +kernel
theorem dX11_daysUntilNoneOf_27 : decode cX11_daysUntilNoneOf 27 = .ok (.iand, 1) := by decide +kernel
theorem dX11_daysUntilNoneOf_28 : decode cX11_daysUntilNoneOf 28 = .ok (.ifCond .ne 5, 3) := by decide +kernel
theorem dX11_daysUntilNoneOf_31 : decode cX11_daysUntilNoneOf 31 = .ok (.iload_n 2, 1) := by decide +kernel
theorem dX11_daysUntilNoneOf_32 : decode cX11_daysUntilNoneOf 32 = .ok (.ireturn, 1) := by decide +kernel
theorem dX11_daysUntilNoneOf_33 : decode cX11_daysUntilNoneOf 33 = .ok (.aload_n 0, 1) := by decide +kernel
theorem dX11_daysUntilNoneOf_34 : decode cX11_daysUntilNoneOf 34 = .ok (.getfield 19, 3) := by decide +kernel
theorem dX11_daysUntilNoneOf_37 : decode cX11_daysUntilNoneOf 37 = .ok (.invokevirtual 154, 3) := by decide +kernel
theorem dX11_daysUntilNoneOf_40 : decode cX11_daysUntilNoneOf 40 = .ok (.pop, 1) := by decide +kernel
theorem dX11_daysUntilNoneOf_41 : decode cX11_daysUntilNoneOf 41 = .ok (.iinc 2 1, 3) := by decide +kernel
theorem dX11_daysUntilNoneOf_44 : decode cX11_daysUntilNoneOf 44 = .ok (.goto (-31), 3) := by decide +kernel
theorem dX11_daysUntilNoneOf_47 : decode cX11_daysUntilNoneOf 47 = .ok (.bipush (-4), 2) := by decide +kernel
theorem dX11_daysUntilNoneOf_49 : decode cX11_daysUntilNoneOf 49 = .ok (.ireturn, 1) := by decide +kernel
set_option maxRecDepth 20000 in
theorem ggX11_bestSea_X11_within : GoodIn wsX11_bestSea wsX11_within := goodIn_r _ [7] (by decide +kernel) (by decide +kernel)
set_option maxRecDepth 20000 in
theorem gX11_bestSea_X11_within : GoodIn wsX11_bestSea (va_wsS RX11 94 yX11_within wsX11_within) := goodIn_app (goodIn_of _ (by decide +kernel)) ggX11_bestSea_X11_within
set_option maxRecDepth 20000 in
theorem ggX11_bestSea_X4_become : GoodIn wsX11_bestSea wsX4_become := goodIn_r _ [12, 13, 14, 15, 16, 17, 18, 19, 20, 21, 22, 23, 24, 25, 183, 184, 185, 186, 187, 188, 189, 190, 191, 192] (by decide +kernel) (by decide +kernel)
set_option maxRecDepth 20000 in
theorem gX11_bestSea_X4_become : GoodIn wsX11_bestSea (wsV RX11 50 RX4 yX4_become wsX4_become) := goodIn_app (goodIn_of _ (by decide +kernel)) ggX11_bestSea_X4_become
set_option maxRecDepth 20000 in
theorem ggX11_bestSea_X4_goOn : GoodIn wsX11_bestSea wsX4_goOn := goodIn_r _ [29, 30, 31, 32, 11, 33, 25, 21, 19, 34, 35, 36, 37, 38, 39, 40, 41, 42, 43, 44, 22, 45, 6, 46, 47, 48, 49, 50, 51, 13, 18, 24, 52, 53, 54, 55, 56, 57, 58, 59, 60, 61, 62, 63, 64, 65, 66, 67, 68, 69, 70, 71, 72, 73, 74, 75, 76, 77, 78, 79, 80, 81, 82, 83, 84, 85, 86, 87, 88, 89, 90, 91, 92, 93, 94, 95, 96, 23, 97, 98, 99, 100, 101, 102, 103, 104, 105, 106, 107, 108, 109, 110, 111, 112, 113, 114, 115, 116, 117, 118, 119, 120, 121, 122, 123, 124, 125, 126, 127, 128, 129, 130, 131, 132, 133, 134, 135, 136, 137, 138, 139, 140, 141, 142, 143, 144, 145, 146, 147, 148, 149, 150, 151, 152, 153, 154, 155, 156, 157, 158, 159, 160, 20, 161, 162, 163, 164, 183, 184, 185, 186, 187, 188, 189, 190, 191, 192] (by decide +kernel) (by decide +kernel)
set_option maxRecDepth 20000 in
theorem gX11_bestSea_X4_goOn : GoodIn wsX11_bestSea (wsV RX11 131 RX4 yX4_goOn wsX4_goOn) := goodIn_app (goodIn_of _ (by decide +kernel)) ggX11_bestSea_X4_goOn
set_option maxRecDepth 20000 in
theorem ggX11_bestSea_X4_howManyThere : GoodIn wsX11_bestSea wsX4_howManyThere := goodIn_r _ [168, 22, 169, 170, 171, 172, 173, 174, 175, 183, 184, 185, 186, 187, 188, 189, 190, 191, 192] (by decide +kernel) (by decide +kernel)
set_option maxRecDepth 20000 in
theorem gX11_bestSea_X4_howManyThere : GoodIn wsX11_bestSea (wsV RX11 135 RX4 yX4_howManyThere wsX4_howManyThere) := goodIn_app (goodIn_of _ (by decide +kernel)) ggX11_bestSea_X4_howManyThere
theorem dX11_bestSea_0 : decode cX11_bestSea 0 = .ok (.iload_n 1, 1) := by decide +kernel
theorem dX11_bestSea_1 : decode cX11_bestSea 1 = .ok (.iconst 0, 1) := by decide +kernel
theorem dX11_bestSea_2 : decode cX11_bestSea 2 = .ok (.bipush 60, 2) := by decide +kernel
theorem dX11_bestSea_4 : decode cX11_bestSea 4 = .ok (.invokestatic 94, 3) := by decide +kernel
theorem dX11_bestSea_7 : decode cX11_bestSea 7 = .ok (.ifCond .eq 12, 3) := by decide +kernel
theorem dX11_bestSea_10 : decode cX11_bestSea 10 = .ok (.iload_n 2, 1) := by decide +kernel
theorem dX11_bestSea_11 : decode cX11_bestSea 11 = .ok (.iconst 0, 1) := by decide +kernel
theorem dX11_bestSea_12 : decode cX11_bestSea 12 = .ok (.iconst 1, 1) := by decide +kernel
theorem dX11_bestSea_13 : decode cX11_bestSea 13 = .ok (.invokestatic 94, 3) := by decide +kernel
theorem dX11_bestSea_16 : decode cX11_bestSea 16 = .ok (.ifCond .ne 5, 3) := by decide +kernel
theorem dX11_bestSea_19 : decode cX11_bestSea 19 = .ok (.iconst (-1), 1) := by decide +kernel
theorem dX11_bestSea_20 : decode cX11_bestSea 20 = .ok (.ireturn, 1) := by decide +kernel
theorem dX11_bestSea_21 : decode cX11_bestSea 21 = .ok (.iconst 0, 1) := by decide +kernel
theorem dX11_bestSea_22 : decode cX11_bestSea 22 = .ok (.istore_n 3, 1) := by decide +kernel
theorem dX11_bestSea_23 : decode cX11_bestSea 23 = .ok (.iconst (-1), 1) := by decide +kernel
theorem dX11_bestSea_24 : decode cX11_bestSea 24 = .ok (.istore 4, 2) := by decide +kernel
theorem dX11_bestSea_26 : decode cX11_bestSea 26 = .ok (.iconst 0, 1) := by decide +kernel
theorem dX11_bestSea_27 : decode cX11_bestSea 27 = .ok (.istore 5, 2) := by decide +kernel
theorem dX11_bestSea_29 : decode cX11_bestSea 29 = .ok (.iload 5, 2) := by decide +kernel
theorem dX11_bestSea_31 : decode cX11_bestSea 31 = .ok (.bipush 9, 2) := by decide +kernel
theorem dX11_bestSea_33 : decode cX11_bestSea 33 = .ok (.if_icmp .gt 61, 3) := by decide +kernel
theorem dX11_bestSea_36 : decode cX11_bestSea 36 = .ok (.aload_n 0, 1) := by decide +kernel
theorem dX11_bestSea_37 : decode cX11_bestSea 37 = .ok (.getfield 19, 3) := by decide +kernel
theorem dX11_bestSea_40 : decode cX11_bestSea 40 = .ok (.aload_n 0, 1) := by decide +kernel
theorem dX11_bestSea_41 : decode cX11_bestSea 41 = .ok (.getfield 10, 3) := by decide +kernel
theorem dX11_bestSea_44 : decode cX11_bestSea 44 = .ok (.invokevirtual 50, 3) := by decide +kernel
theorem dX11_bestSea_47 : decode cX11_bestSea 47 = .ok (.aload_n 0, 1) := by decide +kernel
theorem dX11_bestSea_48 : decode cX11_bestSea 48 = .ok (.getfield 19, 3) := by decide +kernel
theorem dX11_bestSea_51 : decode cX11_bestSea 51 = .ok (.iload 5, 2) := by decide +kernel
theorem dX11_bestSea_53 : decode cX11_bestSea 53 = .ok (.putfield 111, 3) := by decide +kernel
theorem dX11_bestSea_56 : decode cX11_bestSea 56 = .ok (.aload_n 0, 1) := by decide +kernel
theorem dX11_bestSea_57 : decode cX11_bestSea 57 = .ok (.getfield 19, 3) := by decide +kernel
theorem dX11_bestSea_60 : decode cX11_bestSea 60 = .ok (.iload_n 1, 1) := by decide +kernel
theorem dX11_bestSea_61 : decode cX11_bestSea 61 = .ok (.invokevirtual 131, 3) := by decide +kernel
theorem dX11_bestSea_64 : decode cX11_bestSea 64 = .ok (.aload_n 0, 1) := by decide +kernel
theorem dX11_bestSea_65 : decode cX11_bestSea 65 = .ok (.getfield 19, 3) := by decide +kernel
theorem dX11_bestSea_68 : decode cX11_bestSea 68 = .ok (.invokevirtual 135, 3) := by decide +kernel
theorem dX11_bestSea_71 : decode cX11_bestSea 71 = .ok (.iload 4, 2) := by decide +kernel
theorem dX11_bestSea_73 : decode cX11_bestSea 73 = .ok (.if_icmp .le 15, 3) := by decide +kernel
theorem dX11_bestSea_76 : decode cX11_bestSea 76 = .ok (.aload_n 0, 1) := by decide +kernel
theorem dX11_bestSea_77 : decode cX11_bestSea 77 = .ok (.getfield 19, 3) := by decide +kernel
theorem dX11_bestSea_80 : decode cX11_bestSea 80 = .ok (.invokevirtual 135, 3) := by decide +kernel
theorem dX11_bestSea_83 : decode cX11_bestSea 83 = .ok (.istore 4, 2) := by decide +kernel
theorem dX11_bestSea_85 : decode cX11_bestSea 85 = .ok (.iload 5, 2) := by decide +kernel
theorem dX11_bestSea_87 : decode cX11_bestSea 87 = .ok (.istore_n 3, 1) := by decide +kernel
theorem dX11_bestSea_88 : decode cX11_bestSea 88 = .ok (.iinc 5 1, 3) := by decide +kernel
theorem dX11_bestSea_91 : decode cX11_bestSea 91 = .ok (.goto (-62), 3) := by decide +kernel
theorem dX11_bestSea_94 : decode cX11_bestSea 94 = .ok (.iload_n 2, 1) := by decide +kernel
theorem dX11_bestSea_95 : decode cX11_bestSea 95 = .ok (.ifCond .ne 7, 3) := by decide +kernel
theorem dX11_bestSea_98 : decode cX11_bestSea 98 = .ok (.iload_n 3, 1) := by decide +kernel
theorem dX11_bestSea_99 : decode cX11_bestSea 99 = .ok (.goto 5, 3) := by decide +kernel
theorem dX11_bestSea_102 : decode cX11_bestSea 102 = .ok (.iload 4, 2) := by decide +kernel
theorem dX11_bestSea_104 : decode cX11_bestSea 104 = .ok (.ireturn, 1) := by decide +kernel
set_option maxRecDepth 20000 in
theorem ggX11_leastBirds_X4_become : GoodIn wsX11_leastBirds wsX4_become := goodIn_r _ [8, 9, 10, 11, 12, 13, 14, 15, 16, 17, 18, 19, 20, 21, 177, 178, 179, 180, 181, 182, 183, 184, 185, 186] (by decide +kernel) (by decide +kernel)
set_option maxRecDepth 20000 in
theorem gX11_leastBirds_X4_become : GoodIn wsX11_leastBirds (wsV RX11 50 RX4 yX4_become wsX4_become) := goodIn_app (goodIn_of _ (by decide +kernel)) ggX11_leastBirds_X4_become
set_option maxRecDepth 20000 in
theorem ggX11_leastBirds_X4_goOnToRent : GoodIn wsX11_leastBirds wsX4_goOnToRent := goodIn_r _ [25, 26, 27, 28, 7, 29, 21, 30, 31, 32, 33, 34, 35, 36, 37, 17, 15, 38, 39, 40, 41, 42, 43, 44, 45, 46, 47, 48, 18, 49, 50, 51, 52, 53, 54, 55, 56, 9, 14, 20, 57, 58, 59, 60, 61, 62, 63, 64, 65, 66, 67, 68, 69, 70, 71, 72, 73, 74, 75, 76, 77, 78, 79, 80, 81, 82, 83, 84, 85, 86, 87, 88, 89, 90, 91, 92, 93, 94, 95, 96, 97, 98, 99, 100, 101, 19, 102, 103, 104, 105, 106, 107, 108, 109, 110, 111, 112, 113, 114, 115, 116, 117, 118, 119, 120, 121, 122, 123, 124, 125, 126, 127, 128, 129, 130, 131, 132, 133, 134, 135, 136, 137, 138, 139, 140, 141, 142, 143, 144, 145, 146, 147, 148, 149, 150, 151, 152, 153, 154, 155, 156, 157, 158, 159, 160, 161, 162, 163, 164, 165, 16, 166, 167, 168, 169, 177, 178, 179, 180, 181, 182, 183, 184, 185, 186] (by decide +kernel) (by decide +kernel)
set_option maxRecDepth 20000 in
theorem gX11_leastBirds_X4_goOnToRent : GoodIn wsX11_leastBirds (wsV RX11 151 RX4 yX4_goOnToRent wsX4_goOnToRent) := goodIn_app (goodIn_of _ (by decide +kernel)) ggX11_leastBirds_X4_goOnToRent
theorem dX11_leastBirds_0 : decode cX11_leastBirds 0 = .ok (.iconst 0, 1) := by decide +kernel
theorem dX11_leastBirds_1 : decode cX11_leastBirds 1 = .ok (.istore_n 1, 1) := by decide +kernel
theorem dX11_leastBirds_2 : decode cX11_leastBirds 2 = .ok (.iload_n 1, 1) := by decide +kernel
theorem dX11_leastBirds_3 : decode cX11_leastBirds 3 = .ok (.bipush 99, 2) := by decide +kernel
theorem dX11_leastBirds_5 : decode cX11_leastBirds 5 = .ok (.if_icmp .gt 40, 3) := by decide +kernel
theorem dX11_leastBirds_8 : decode cX11_leastBirds 8 = .ok (.aload_n 0, 1) := by decide +kernel
theorem dX11_leastBirds_9 : decode cX11_leastBirds 9 = .ok (.getfield 19, 3) := by decide +kernel
theorem dX11_leastBirds_12 : decode cX11_leastBirds 12 = .ok (.aload_n 0, 1) := by decide +kernel
theorem dX11_leastBirds_13 : decode cX11_leastBirds 13 = .ok (.getfield 10, 3) := by decide +kernel
theorem dX11_leastBirds_16 : decode cX11_leastBirds 16 = .ok (.invokevirtual 50, 3) := by decide +kernel
theorem dX11_leastBirds_19 : decode cX11_leastBirds 19 = .ok (.aload_n 0, 1) := by decide +kernel
theorem dX11_leastBirds_20 : decode cX11_leastBirds 20 = .ok (.getfield 19, 3) := by decide +kernel
theorem dX11_leastBirds_23 : decode cX11_leastBirds 23 = .ok (.iload_n 1, 1) := by decide +kernel
theorem dX11_leastBirds_24 : decode cX11_leastBirds 24 = .ok (.putfield 114, 3) := by decide +kernel
theorem dX11_leastBirds_27 : decode cX11_leastBirds 27 = .ok (.aload_n 0, 1) := by decide +kernel
theorem dX11_leastBirds_28 : decode cX11_leastBirds 28 = .ok (.getfield 19, 3) := by decide +kernel
theorem dX11_leastBirds_31 : decode cX11_leastBirds 31 = .ok (.invokevirtual 151, 3) := by decide +kernel
theorem dX11_leastBirds_34 : decode cX11_leastBirds 34 = .ok (.ifCond .ne 5, 3) := by decide +kernel
theorem dX11_leastBirds_37 : decode cX11_leastBirds 37 = .ok (.iload_n 1, 1) := by decide +kernel
theorem dX11_leastBirds_38 : decode cX11_leastBirds 38 = .ok (.ireturn, 1) := by decide +kernel
theorem dX11_leastBirds_39 : decode cX11_leastBirds 39 = .ok (.iinc 1 1, 3) := by decide +kernel
theorem dX11_leastBirds_42 : decode cX11_leastBirds 42 = .ok (.goto (-40), 3) := by decide +kernel
theorem dX11_leastBirds_45 : decode cX11_leastBirds 45 = .ok (.bipush (-4), 2) := by decide +kernel
theorem dX11_leastBirds_47 : decode cX11_leastBirds 47 = .ok (.ireturn, 1) := by decide +kernel
set_option maxRecDepth 20000 in
theorem ggX11_leastStore_X4_knows : GoodIn wsX11_leastStore wsX4_knows := goodIn_r _ [8, 9, 183, 184, 185, 186, 187, 188, 189, 190, 191, 192] (by decide +kernel) (by decide +kernel)
set_option maxRecDepth 20000 in
theorem gX11_leastStore_X4_knows : GoodIn wsX11_leastStore (wsV RX11 65 RX4 yX4_knows wsX4_knows) := goodIn_app (goodIn_of _ (by decide +kernel)) ggX11_leastStore_X4_knows
set_option maxRecDepth 20000 in
theorem ggX11_leastStore_X4_isThere : GoodIn wsX11_leastStore wsX4_isThere := goodIn_r _ [13, 14, 15, 16, 17, 183, 184, 185, 186, 187, 188, 189, 190, 191, 192] (by decide +kernel) (by decide +kernel)
set_option maxRecDepth 20000 in
theorem gX11_leastStore_X4_isThere : GoodIn wsX11_leastStore (wsV RX11 81 RX4 yX4_isThere wsX4_isThere) := goodIn_app (goodIn_of _ (by decide +kernel)) ggX11_leastStore_X4_isThere
set_option maxRecDepth 20000 in
theorem ggX11_leastStore_X4_become : GoodIn wsX11_leastStore wsX4_become := goodIn_r _ [21, 22, 23, 24, 25, 26, 27, 28, 29, 9, 14, 30, 31, 32, 183, 184, 185, 186, 187, 188, 189, 190, 191, 192] (by decide +kernel) (by decide +kernel)
set_option maxRecDepth 20000 in
theorem gX11_leastStore_X4_become : GoodIn wsX11_leastStore (wsV RX11 50 RX4 yX4_become wsX4_become) := goodIn_app (goodIn_of _ (by decide +kernel)) ggX11_leastStore_X4_become
set_option maxRecDepth 20000 in
theorem ggX11_leastStore_X4_goOnToRent : GoodIn wsX11_leastStore wsX4_goOnToRent := goodIn_r _ [36, 37, 38, 39, 7, 40, 32, 41, 42, 43, 44, 45, 46, 47, 48, 9, 28, 49, 50, 51, 52, 53, 54, 55, 56, 11, 12, 13, 14, 15, 16, 17, 57, 58, 59, 60, 61, 22, 27, 31, 62, 63, 64, 65, 66, 67, 68, 69, 70, 71, 72, 73, 74, 75, 76, 77, 78, 79, 80, 81, 82, 83, 84, 85, 86, 87, 88, 89, 90, 91, 92, 93, 94, 95, 96, 97, 98, 99, 100, 101, 102, 103, 104, 105, 106, 30, 107, 108, 109, 110, 111, 112, 113, 114, 115, 116, 117, 118, 119, 120, 121, 122, 123, 124, 125, 126, 127, 128, 129, 130, 131, 132, 133, 134, 135, 136, 137, 138, 139, 140, 141, 142, 143, 144, 145, 146, 147, 148, 149, 150, 151, 152, 153, 154, 155, 156, 157, 158, 159, 160, 161, 162, 163, 164, 165, 166, 167, 168, 169, 170, 29, 171, 172, 173, 174, 183, 184, 185, 186, 187, 188, 189, 190, 191, 192] (by decide +kernel) (by decide +kernel)
set_option maxRecDepth 20000 in
theorem gX11_leastStore_X4_goOnToRent : GoodIn wsX11_leastStore (wsV RX11 151 RX4 yX4_goOnToRent wsX4_goOnToRent) := goodIn_app (goodIn_of _ (by decide +kernel)) ggX11_leastStore_X4_goOnToRent
set_option maxRecDepth 20000 in
theorem ggX11_leastStore_X11_hasBit : GoodIn wsX11_leastStore wsX11_hasBit := goodIn_r _ [17] (by decide +kernel) (by decide +kernel)
set_option maxRecDepth 20000 in
theorem gX11_leastStore_X11_hasBit : GoodIn wsX11_leastStore (va_wsS RX11 162 yX11_hasBit wsX11_hasBit) := goodIn_app (goodIn_of _ (by decide +kernel)) ggX11_leastStore_X11_hasBit
theorem dX11_leastStore_0 : decode cX11_leastStore 0 = .ok (.aload_n 0, 1) := by decide +kernel
theorem dX11_leastStore_1 : decode cX11_leastStore 1 = .ok (.getfield 10, 3) := by decide +kernel
theorem dX11_leastStore_4 : decode cX11_leastStore 4 = .ok (.iload_n 1, 1) := by decide +kernel
theorem dX11_leastStore_5 : decode cX11_leastStore 5 = .ok (.invokevirtual 65, 3) := by decide +kernel
theorem dX11_leastStore_8 : decode cX11_leastStore 8 = .ok (.ifCond .ne 5, 3) := by decide +kernel
theorem dX11_leastStore_11 : decode cX11_leastStore 11 = .ok (.iconst (-1), 1) := by decide +kernel
theorem dX11_leastStore_12 : decode cX11_leastStore 12 = .ok (.ireturn, 1) := by decide +kernel
theorem dX11_leastStore_13 : decode cX11_leastStore 13 = .ok (.aload_n 0, 1) := by decide +kernel
theorem dX11_leastStore_14 : decode cX11_leastStore 14 = .ok (.getfield 10, 3) := by decide +kernel
theorem dX11_leastStore_17 : decode cX11_leastStore 17 = .ok (.iload_n 1, 1) := by decide +kernel
theorem dX11_leastStore_18 : decode cX11_leastStore 18 = .ok (.invokevirtual 81, 3) := by decide +kernel
theorem dX11_leastStore_21 : decode cX11_leastStore 21 = .ok (.ifCond .ne 6, 3) := by decide +kernel
theorem dX11_leastStore_24 : decode cX11_leastStore 24 = .ok (.bipush (-4), 2) := by decide +kernel
theorem dX11_leastStore_26 : decode cX11_leastStore 26 = .ok (.ireturn, 1) := by decide +kernel
theorem dX11_leastStore_27 : decode cX11_leastStore 27 = .ok (.iconst 0, 1) := by decide +kernel
theorem dX11_leastStore_28 : decode cX11_leastStore 28 = .ok (.istore_n 2, 1) := by decide +kernel
theorem dX11_leastStore_29 : decode cX11_leastStore 29 = .ok (.iload_n 2, 1) := by decide +kernel
theorem dX11_leastStore_30 : decode cX11_leastStore 30 = .ok (.bipush 99, 2) := by decide +kernel
theorem dX11_leastStore_32 : decode cX11_leastStore 32 = .ok (.if_icmp .gt 46, 3) := by decide +kernel
theorem dX11_leastStore_35 : decode cX11_leastStore 35 = .ok (.aload_n 0, 1) := by decide +kernel
theorem dX11_leastStore_36 : decode cX11_leastStore 36 = .ok (.getfield 19, 3) := by decide +kernel
theorem dX11_leastStore_39 : decode cX11_leastStore 39 = .ok (.aload_n 0, 1) := by decide +kernel
theorem dX11_leastStore_40 : decode cX11_leastStore 40 = .ok (.getfield 10, 3) := by decide +kernel
theorem dX11_leastStore_43 : decode cX11_leastStore 43 = .ok (.invokevirtual 50, 3) := by decide +kernel
theorem dX11_leastStore_46 : decode cX11_leastStore 46 = .ok (.aload_n 0, 1) := by decide +kernel
theorem dX11_leastStore_47 : decode cX11_leastStore 47 = .ok (.getfield 19, 3) := by decide +kernel
theorem dX11_leastStore_50 : decode cX11_leastStore 50 = .ok (.getfield 75, 3) := by decide +kernel
theorem dX11_leastStore_53 : decode cX11_leastStore 53 = .ok (.iload_n 1, 1) := by decide +kernel
theorem dX11_leastStore_54 : decode cX11_leastStore 54 = .ok (.iload_n 2, 1) := by decide +kernel
theorem dX11_leastStore_55 : decode cX11_leastStore 55 = .ok (.iastore, 1) := by decide +kernel
theorem dX11_leastStore_56 : decode cX11_leastStore 56 = .ok (.aload_n 0, 1) := by decide +kernel
theorem dX11_leastStore_57 : decode cX11_leastStore 57 = .ok (.getfield 19, 3) := by decide +kernel
theorem dX11_leastStore_60 : decode cX11_leastStore 60 = .ok (.invokevirtual 151, 3) := by decide +kernel
theorem dX11_leastStore_63 : decode cX11_leastStore 63 = .ok (.iload_n 1, 1) := by decide +kernel
theorem dX11_leastStore_64 : decode cX11_leastStore 64 = .ok (.invokestatic 162, 3) := by decide +kernel
theorem dX11_leastStore_67 : decode cX11_leastStore 67 = .ok (.ifCond .ne 5, 3) := by decide +kernel
theorem dX11_leastStore_70 : decode cX11_leastStore 70 = .ok (.iload_n 2, 1) := by decide +kernel
theorem dX11_leastStore_71 : decode cX11_leastStore 71 = .ok (.ireturn, 1) := by decide +kernel
theorem dX11_leastStore_72 : decode cX11_leastStore 72 = .ok (.iinc 2 1, 3) := by decide +kernel
theorem dX11_leastStore_75 : decode cX11_leastStore 75 = .ok (.goto (-46), 3) := by decide +kernel
theorem dX11_leastStore_78 : decode cX11_leastStore 78 = .ok (.bipush (-4), 2) := by decide +kernel
theorem dX11_leastStore_80 : decode cX11_leastStore 80 = .ok (.ireturn, 1) := by decide +kernel
set_option maxRecDepth 20000 in
theorem ggX11_lend_X11_areTwo : GoodIn wsX11_lend wsX11_areTwo := goodIn_r _ [7, 1, 8, 9, 10, 11, 12, 13, 187, 188, 189, 190, 191, 192, 193, 194, 195, 196, 197, 198, 199, 200, 201, 202, 203] (by decide +kernel) (by decide +kernel)
set_option maxRecDepth 20000 in
theorem gX11_lend_X11_areTwo : GoodIn wsX11_lend (wsV RX11 117 RX11 yX11_areTwo wsX11_areTwo) := goodIn_app (goodIn_of _ (by decide +kernel)) ggX11_lend_X11_areTwo
set_option maxRecDepth 20000 in
theorem ggX11_lend_X4_isThere : GoodIn wsX11_lend wsX4_isThere := goodIn_r _ [17, 18, 19, 6, 20, 194, 195, 196, 197, 198, 199, 200, 201, 202, 203] (by decide +kernel) (by decide +kernel)
set_option maxRecDepth 20000 in
theorem gX11_lend_X4_isThere : GoodIn wsX11_lend (wsV RX11 81 RX4 yX4_isThere wsX4_isThere) := goodIn_app (goodIn_of _ (by decide +kernel)) ggX11_lend_X4_isThere
set_option maxRecDepth 20000 in
theorem ggX11_lend_X4_become : GoodIn wsX11_lend wsX4_become := goodIn_r _ [24, 25, 26, 27, 28, 29, 30, 31, 32, 13, 18, 33, 34, 35, 194, 195, 196, 197, 198, 199, 200, 201, 202, 203] (by decide +kernel) (by decide +kernel)
set_option maxRecDepth 20000 in
theorem gX11_lend_X4_become : GoodIn wsX11_lend (wsV RX11 50 RX4 yX4_become wsX4_become) := goodIn_app (goodIn_of _ (by decide +kernel)) ggX11_lend_X4_become
set_option maxRecDepth 20000 in
theorem ggX11_lend_X4_goOnToRent : GoodIn wsX11_lend wsX4_goOnToRent := goodIn_r _ [39, 40, 41, 42, 11, 43, 35, 44, 45, 46, 47, 48, 49, 50, 51, 13, 31, 52, 53, 54, 55, 56, 57, 58, 59, 15, 16, 17, 18, 19, 6, 20, 60, 61, 62, 63, 64, 25, 30, 34, 65, 66, 67, 68, 69, 70, 71, 72, 73, 74, 75, 76, 77, 78, 79, 80, 81, 82, 83, 84, 85, 86, 87, 88, 89, 90, 91, 92, 93, 94, 95, 96, 97, 98, 99, 100, 101, 102, 103, 104, 105, 106, 107, 108, 109, 33, 110, 111, 112, 113, 114, 115, 116, 117, 118, 119, 120, 121, 122, 123, 124, 125, 126, 127, 128, 129, 130, 131, 132, 133, 134, 135, 136, 137, 138, 139, 140, 141, 142, 143, 144, 145, 146, 147, 148, 149, 150, 151, 152, 153, 154, 155, 156, 157, 158, 159, 160, 161, 162, 163, 164, 165, 166, 167, 168, 169, 170, 171, 172, 173, 32, 174, 175, 176, 177, 194, 195, 196, 197, 198, 199, 200, 201, 202, 203] (by decide +kernel) (by decide +kernel)
set_option maxRecDepth 20000 in
theorem gX11_lend_X4_goOnToRent : GoodIn wsX11_lend (wsV RX11 151 RX4 yX4_goOnToRent wsX4_goOnToRent) := goodIn_app (goodIn_of _ (by decide +kernel)) ggX11_lend_X4_goOnToRent
set_option maxRecDepth 20000 in
theorem ggX11_lend_X11_hasBit : GoodIn wsX11_lend wsX11_hasBit := goodIn_r _ [20] (by decide +kernel) (by decide +kernel)
set_option maxRecDepth 20000 in
theorem gX11_lend_X11_hasBit : GoodIn wsX11_lend (va_wsS RX11 162 yX11_hasBit wsX11_hasBit) := goodIn_app (goodIn_of _ (by decide +kernel)) ggX11_lend_X11_hasBit
set_option maxRecDepth 20000 in
theorem ggX11_lend_X4_canLend : GoodIn wsX11_lend wsX4_canLend := goodIn_r _ [182, 31, 59, 15, 16, 11, 17, 18, 19, 6, 20, 194, 195, 196, 197, 198, 199, 200, 201, 202, 203] (by decide +kernel) (by decide +kernel)
set_option maxRecDepth 20000 in
theorem gX11_lend_X4_canLend : GoodIn wsX11_lend (wsV RX11 121 RX4 yX4_canLend wsX4_canLend) := goodIn_app (goodIn_of _ (by decide +kernel)) ggX11_lend_X4_canLend
set_option maxRecDepth 20000 in
theorem ggX11_lend_X4_handOver : GoodIn wsX11_lend wsX4_handOver := goodIn_r _ [186, 31, 194, 195, 196, 197, 198, 199, 200, 201, 202, 203] (by decide +kernel) (by decide +kernel)
set_option maxRecDepth 20000 in
theorem gX11_lend_X4_handOver : GoodIn wsX11_lend (wsV RX11 124 RX4 yX4_handOver wsX4_handOver) := goodIn_app (goodIn_of _ (by decide +kernel)) ggX11_lend_X4_handOver
theorem dX11_lend_0 : decode cX11_lend 0 = .ok (.aload_n 0, 1) := by decide +kernel
theorem dX11_lend_1 : decode cX11_lend 1 = .ok (.iload_n 1, 1) := by decide +kernel
theorem dX11_lend_2 : decode cX11_lend 2 = .ok (.iload_n 2, 1) := by decide +kernel
theorem dX11_lend_3 : decode cX11_lend 3 = .ok (.invokevirtual 117, 3) := by decide +kernel
theorem dX11_lend_6 : decode cX11_lend 6 = .ok (.ifCond .ne 5, 3) := by decide +kernel
theorem dX11_lend_9 : decode cX11_lend 9 = .ok (.iconst (-1), 1) := by decide +kernel
theorem dX11_lend_10 : decode cX11_lend 10 = .ok (.ireturn, 1) := by decide +kernel
theorem dX11_lend_11 : decode cX11_lend 11 = .ok (.aload_n 0, 1) := by decide +kernel
theorem dX11_lend_12 : decode cX11_lend 12 = .ok (.getfield 10, 3) := by decide +kernel
theorem dX11_lend_15 : decode cX11_lend 15 = .ok (.iload_n 1, 1) := by decide +kernel
theorem dX11_lend_16 : decode cX11_lend 16 = .ok (.invokevirtual 81, 3) := by decide +kernel
theorem dX11_lend_19 : decode cX11_lend 19 = .ok (.ifCond .eq 14, 3) := by decide +kernel
theorem dX11_lend_22 : decode cX11_lend 22 = .ok (.aload_n 0, 1) := by decide +kernel
theorem dX11_lend_23 : decode cX11_lend 23 = .ok (.getfield 10, 3) := by decide +kernel
theorem dX11_lend_26 : decode cX11_lend 26 = .ok (.iload_n 2, 1) := by decide +kernel
theorem dX11_lend_27 : decode cX11_lend 27 = .ok (.invokevirtual 81, 3) := by decide +kernel
theorem dX11_lend_30 : decode cX11_lend 30 = .ok (.ifCond .ne 6, 3) := by decide +kernel
theorem dX11_lend_33 : decode cX11_lend 33 = .ok (.bipush (-3), 2) := by decide +kernel
theorem dX11_lend_35 : decode cX11_lend 35 = .ok (.ireturn, 1) := by decide +kernel
theorem dX11_lend_36 : decode cX11_lend 36 = .ok (.aload_n 0, 1) := by decide +kernel
theorem dX11_lend_37 : decode cX11_lend 37 = .ok (.getfield 19, 3) := by decide +kernel
theorem dX11_lend_40 : decode cX11_lend 40 = .ok (.aload_n 0, 1) := by decide +kernel
theorem dX11_lend_41 : decode cX11_lend 41 = .ok (.getfield 10, 3) := by decide +kernel
theorem dX11_lend_44 : decode cX11_lend 44 = .ok (.invokevirtual 50, 3) := by decide +kernel
theorem dX11_lend_47 : decode cX11_lend 47 = .ok (.aload_n 0, 1) := by decide +kernel
theorem dX11_lend_48 : decode cX11_lend 48 = .ok (.getfield 19, 3) := by decide +kernel
theorem dX11_lend_51 : decode cX11_lend 51 = .ok (.invokevirtual 151, 3) := by decide +kernel
theorem dX11_lend_54 : decode cX11_lend 54 = .ok (.iload_n 2, 1) := by decide +kernel
theorem dX11_lend_55 : decode cX11_lend 55 = .ok (.invokestatic 162, 3) := by decide +kernel
theorem dX11_lend_58 : decode cX11_lend 58 = .ok (.ifCond .ne 5, 3) := by decide +kernel
theorem dX11_lend_61 : decode cX11_lend 61 = .ok (.iconst 0, 1) := by decide +kernel
theorem dX11_lend_62 : decode cX11_lend 62 = .ok (.ireturn, 1) := by decide +kernel
theorem dX11_lend_63 : decode cX11_lend 63 = .ok (.iconst 1, 1) := by decide +kernel
theorem dX11_lend_64 : decode cX11_lend 64 = .ok (.istore_n 3, 1) := by decide +kernel
theorem dX11_lend_65 : decode cX11_lend 65 = .ok (.iload_n 3, 1) := by decide +kernel
theorem dX11_lend_66 : decode cX11_lend 66 = .ok (.bipush 99, 2) := by decide +kernel
theorem dX11_lend_68 : decode cX11_lend 68 = .ok (.if_icmp .gt 59, 3) := by decide +kernel
theorem dX11_lend_71 : decode cX11_lend 71 = .ok (.aload_n 0, 1) := by decide +kernel
theorem dX11_lend_72 : decode cX11_lend 72 = .ok (.getfield 10, 3) := by decide +kernel
theorem dX11_lend_75 : decode cX11_lend 75 = .ok (.iload_n 1, 1) := by decide +kernel
theorem dX11_lend_76 : decode cX11_lend 76 = .ok (.iload_n 2, 1) := by decide +kernel
theorem dX11_lend_77 : decode cX11_lend 77 = .ok (.iload_n 3, 1) := by decide +kernel
theorem dX11_lend_78 : decode cX11_lend 78 = .ok (.invokevirtual 121, 3) := by decide +kernel
theorem dX11_lend_81 : decode cX11_lend 81 = .ok (.ifCond .eq 46, 3) := by decide +kernel
theorem dX11_lend_84 : decode cX11_lend 84 = .ok (.aload_n 0, 1) := by decide +kernel
theorem dX11_lend_85 : decode cX11_lend 85 = .ok (.getfield 19, 3) := by decide +kernel
theorem dX11_lend_88 : decode cX11_lend 88 = .ok (.aload_n 0, 1) := by decide +kernel
theorem dX11_lend_89 : decode cX11_lend 89 = .ok (.getfield 10, 3) := by decide +kernel
theorem dX11_lend_92 : decode cX11_lend 92 = .ok (.invokevirtual 50, 3) := by decide +kernel
theorem dX11_lend_95 : decode cX11_lend 95 = .ok (.aload_n 0, 1) := by decide +kernel
theorem dX11_lend_96 : decode cX11_lend 96 = .ok (.getfield 19, 3) := by decide +kernel
theorem dX11_lend_99 : decode cX11_lend 99 = .ok (.iload_n 1, 1) := by decide +kernel
theorem dX11_lend_100 : decode cX11_lend 100 = .ok (.iload_n 2, 1) := by decide +kernel
theorem dX11_lend_101 : decode cX11_lend 101 = .ok (.iload_n 3, 1) := by decide +kernel
theorem dX11_lend_102 : decode cX11_lend 102 = .ok (.invokevirtual 124, 3) := by decide +kernel
theorem dX11_lend_105 : decode cX11_lend 105 = .ok (.aload_n 0, 1) := by decide +kernel
theorem dX11_lend_106 : decode cX11_lend 106 = .ok (.getfield 19, 3) := by decide +kernel
theorem dX11_lend_109 : decode cX11_lend 109 = .ok (.invokevirtual 151, 3) := by decide +kernel
theorem dX11_lend_112 : decode cX11_lend 112 = .ok (.iload_n 2, 1) := by decide +kernel
theorem dX11_lend_113 : decode cX11_lend 113 = .ok (.invokestatic 162, 3) := by decide +kernel
theorem dX11_lend_116 : decode cX11_lend 116 = .ok (.ifCond .ne 5, 3) := by decide +kernel
theorem dX11_lend_119 : decode cX11_lend 119 = .ok (.iload_n 3, 1) := by decide +kernel
theorem dX11_lend_120 : decode cX11_lend 120 = .ok (.ireturn, 1) := by decide +kernel
theorem dX11_lend_121 : decode cX11_lend 121 = .ok (.iinc 3 1, 3) := by decide +kernel
theorem dX11_lend_124 : decode cX11_lend 124 = .ok (.goto (-59), 3) := by decide +kernel
theorem dX11_lend_127 : decode cX11_lend 127 = .ok (.bipush (-4), 2) := by decide +kernel
theorem dX11_lend_129 : decode cX11_lend 129 = .ok (.ireturn, 1) := by decide +kernel
set_option maxRecDepth 20000 in
theorem ggX11_send_X11_within : GoodIn wsX11_send wsX11_within := goodIn_r _ [7] (by decide +kernel) (by decide +kernel)
set_option maxRecDepth 20000 in
theorem gX11_send_X11_within : GoodIn wsX11_send (va_wsS RX11 94 yX11_within wsX11_within) := goodIn_app (goodIn_of _ (by decide +kernel)) ggX11_send_X11_within
set_option maxRecDepth 20000 in
theorem ggX11_send_X4_become : GoodIn wsX11_send wsX4_become := goodIn_r _ [12, 13, 14, 15, 16, 17, 18, 19, 20, 21, 22, 23, 24, 25, 196, 197, 198, 199, 200, 201, 202, 203, 204, 205] (by decide +kernel) (by decide +kernel)
set_option maxRecDepth 20000 in
theorem gX11_send_X4_become : GoodIn wsX11_send (wsV RX11 50 RX4 yX4_become wsX4_become) := goodIn_app (goodIn_of _ (by decide +kernel)) ggX11_send_X4_become
set_option maxRecDepth 20000 in
theorem ggX11_send_X4_goOn : GoodIn wsX11_send wsX4_goOn := goodIn_r _ [29, 30, 31, 32, 11, 33, 25, 21, 19, 34, 35, 36, 37, 38, 39, 40, 41, 42, 43, 44, 22, 45, 6, 46, 47, 48, 49, 50, 51, 13, 18, 24, 52, 53, 54, 55, 56, 57, 58, 59, 60, 61, 62, 63, 64, 65, 66, 67, 68, 69, 70, 71, 72, 73, 74, 75, 76, 77, 78, 79, 80, 81, 82, 83, 84, 85, 86, 87, 88, 89, 90, 91, 92, 93, 94, 95, 96, 23, 97, 98, 99, 100, 101, 102, 103, 104, 105, 106, 107, 108, 109, 110, 111, 112, 113, 114, 115, 116, 117, 118, 119, 120, 121, 122, 123, 124, 125, 126, 127, 128, 129, 130, 131, 132, 133, 134, 135, 136, 137, 138, 139, 140, 141, 142, 143, 144, 145, 146, 147, 148, 149, 150, 151, 152, 153, 154, 155, 156, 157, 158, 159, 160, 20, 161, 162, 163, 164, 196, 197, 198, 199, 200, 201, 202, 203, 204, 205] (by decide +kernel) (by decide +kernel)
set_option maxRecDepth 20000 in
theorem gX11_send_X4_goOn : GoodIn wsX11_send (wsV RX11 131 RX4 yX4_goOn wsX4_goOn) := goodIn_app (goodIn_of _ (by decide +kernel)) ggX11_send_X4_goOn
set_option maxRecDepth 20000 in
theorem ggX11_send_X11_whomToSend : GoodIn wsX11_send wsX11_whomToSend := goodIn_r _ [168, 2, 169, 1, 170, 42, 43, 11, 44, 22, 45, 6, 46, 8, 9, 10, 12, 13, 14, 15, 16, 17, 18, 19, 20, 21, 23, 24, 25, 171, 162, 163, 164, 26, 27, 28, 29, 30, 31, 32, 33, 34, 35, 36, 37, 38, 39, 40, 41, 47, 48, 49, 50, 51, 52, 53, 54, 55, 56, 57, 58, 59, 60, 61, 62, 63, 64, 65, 66, 67, 68, 69, 70, 71, 72, 73, 74, 75, 76, 77, 78, 79, 80, 81, 82, 83, 84, 85, 86, 87, 88, 89, 90, 91, 92, 93, 94, 95, 96, 97, 98, 99, 100, 101, 102, 103, 104, 105, 106, 107, 108, 109, 110, 111, 112, 113, 114, 115, 116, 117, 118, 119, 120, 121, 122, 123, 124, 125, 126, 127, 128, 129, 130, 131, 132, 133, 134, 135, 136, 137, 138, 139, 140, 141, 142, 143, 144, 145, 146, 147, 148, 149, 150, 151, 152, 153, 154, 155, 156, 157, 158, 159, 160, 161, 172, 173, 174, 175, 176, 177, 178, 179, 180, 181, 182, 183, 189, 190, 191, 192, 193, 194, 195, 196, 197, 198, 199, 200, 201, 202, 203, 204, 205] (by decide +kernel) (by decide +kernel)
set_option maxRecDepth 20000 in
theorem gX11_send_X11_whomToSend : GoodIn wsX11_send (wsV RX11 165 RX11 yX11_whomToSend wsX11_whomToSend) := goodIn_app (goodIn_of _ (by decide +kernel)) ggX11_send_X11_whomToSend
set_option maxRecDepth 20000 in
theorem ggX11_send_X4_howManyThere : GoodIn wsX11_send wsX4_howManyThere := goodIn_r _ [175, 22, 176, 177, 178, 179, 180, 181, 182, 196, 197, 198, 199, 200, 201, 202, 203, 204, 205] (by decide +kernel) (by decide +kernel)
set_option maxRecDepth 20000 in
theorem gX11_send_X4_howManyThere : GoodIn wsX11_send (wsV RX11 135 RX4 yX4_howManyThere wsX4_howManyThere) := goodIn_app (goodIn_of _ (by decide +kernel)) ggX11_send_X4_howManyThere
set_option maxRecDepth 20000 in
theorem ggX11_send_X11_whoShouldTurn : GoodIn wsX11_send wsX11_whoShouldTurn := goodIn_r _ [187, 2, 169, 1, 188, 170, 42, 43, 11, 44, 22, 45, 6, 46, 8, 9, 10, 12, 13, 14, 15, 16, 17, 18, 19, 20, 21, 23, 24, 25, 26, 27, 28, 29, 30, 31, 32, 33, 34, 35, 36, 37, 38, 39, 40, 41, 47, 48, 49, 50, 51, 52, 53, 54, 55, 56, 57, 58, 59, 60, 61, 62, 63, 64, 65, 66, 67, 68, 69, 70, 71, 72, 73, 74, 75, 76, 77, 78, 79, 80, 81, 82, 83, 84, 85, 86, 87, 88, 89, 90, 91, 92, 93, 94, 95, 96, 97, 98, 99, 100, 101, 102, 103, 104, 105, 106, 107, 108, 109, 110, 111, 112, 113, 114, 115, 116, 117, 118, 119, 120, 121, 122, 123, 124, 125, 126, 127, 128, 129, 130, 131, 132, 133, 134, 135, 136, 137, 138, 139, 140, 141, 142, 143, 144, 145, 146, 147, 148, 149, 150, 151, 152, 153, 154, 155, 156, 157, 158, 159, 160, 161, 162, 163, 164, 172, 173, 174, 175, 176, 177, 178, 179, 180, 181, 182, 189, 190, 191, 192, 193, 194, 195, 196, 197, 198, 199, 200, 201, 202, 203, 204, 205] (by decide +kernel) (by decide +kernel)
set_option maxRecDepth 20000 in
theorem gX11_send_X11_whoShouldTurn : GoodIn wsX11_send (wsV RX11 168 RX11 yX11_whoShouldTurn wsX11_whoShouldTurn) := goodIn_app (goodIn_of _ (by decide +kernel)) ggX11_send_X11_whoShouldTurn
theorem dX11_send_0 : decode cX11_send 0 = .ok (.iload_n 1, 1) := by decide +kernel
theorem dX11_send_1 : decode cX11_send 1 = .ok (.iconst 0, 1) := by decide +kernel
theorem dX11_send_2 : decode cX11_send 2 = .ok (.bipush 60, 2) := by decide +kernel
theorem dX11_send_4 : decode cX11_send 4 = .ok (.invokestatic 94, 3) := by decide +kernel
theorem dX11_send_7 : decode cX11_send 7 = .ok (.ifCond .eq 12, 3) := by decide +kernel
theorem dX11_send_10 : decode cX11_send 10 = .ok (.iload_n 2, 1) := by decide +kernel
theorem dX11_send_11 : decode cX11_send 11 = .ok (.iconst 0, 1) := by decide +kernel
theorem dX11_send_12 : decode cX11_send 12 = .ok (.iconst 1, 1) := by decide +kernel
theorem dX11_send_13 : decode cX11_send 13 = .ok (.invokestatic 94, 3) := by decide +kernel
theorem dX11_send_16 : decode cX11_send 16 = .ok (.ifCond .ne 5, 3) := by decide +kernel
theorem dX11_send_19 : decode cX11_send 19 = .ok (.iconst (-1), 1) := by decide +kernel
theorem dX11_send_20 : decode cX11_send 20 = .ok (.ireturn, 1) := by decide +kernel
theorem dX11_send_21 : decode cX11_send 21 = .ok (.aload_n 0, 1) := by decide +kernel
theorem dX11_send_22 : decode cX11_send 22 = .ok (.getfield 19, 3) := by decide +kernel
theorem dX11_send_25 : decode cX11_send 25 = .ok (.aload_n 0, 1) := by decide +kernel
theorem dX11_send_26 : decode cX11_send 26 = .ok (.getfield 10, 3) := by decide +kernel
theorem dX11_send_29 : decode cX11_send 29 = .ok (.invokevirtual 50, 3) := by decide +kernel
theorem dX11_send_32 : decode cX11_send 32 = .ok (.aload_n 0, 1) := by decide +kernel
theorem dX11_send_33 : decode cX11_send 33 = .ok (.getfield 19, 3) := by decide +kernel
theorem dX11_send_36 : decode cX11_send 36 = .ok (.iload_n 1, 1) := by decide +kernel
theorem dX11_send_37 : decode cX11_send 37 = .ok (.invokevirtual 131, 3) := by decide +kernel
theorem dX11_send_40 : decode cX11_send 40 = .ok (.iload_n 2, 1) := by decide +kernel
theorem dX11_send_41 : decode cX11_send 41 = .ok (.ifCond .ne 18, 3) := by decide +kernel
theorem dX11_send_44 : decode cX11_send 44 = .ok (.aload_n 0, 1) := by decide +kernel
theorem dX11_send_45 : decode cX11_send 45 = .ok (.iload_n 1, 1) := by decide +kernel
theorem dX11_send_46 : decode cX11_send 46 = .ok (.aload_n 0, 1) := by decide +kernel
theorem dX11_send_47 : decode cX11_send 47 = .ok (.getfield 19, 3) := by decide +kernel
theorem dX11_send_50 : decode cX11_send 50 = .ok (.getfield 139, 3) := by decide +kernel
theorem dX11_send_53 : decode cX11_send 53 = .ok (.invokevirtual 165, 3) := by decide +kernel
theorem dX11_send_56 : decode cX11_send 56 = .ok (.goto 15, 3) := by decide +kernel
theorem dX11_send_59 : decode cX11_send 59 = .ok (.aload_n 0, 1) := by decide +kernel
theorem dX11_send_60 : decode cX11_send 60 = .ok (.iload_n 1, 1) := by decide +kernel
theorem dX11_send_61 : decode cX11_send 61 = .ok (.aload_n 0, 1) := by decide +kernel
theorem dX11_send_62 : decode cX11_send 62 = .ok (.getfield 19, 3) := by decide +kernel
theorem dX11_send_65 : decode cX11_send 65 = .ok (.invokevirtual 135, 3) := by decide +kernel
theorem dX11_send_68 : decode cX11_send 68 = .ok (.invokevirtual 168, 3) := by decide +kernel
theorem dX11_send_71 : decode cX11_send 71 = .ok (.ireturn, 1) := by decide +kernel
set_option maxRecDepth 20000 in
theorem ggX11_richest_X4_richestThere : GoodIn wsX11_richest wsX4_richestThere := goodIn_r _ [7, 8, 9, 10, 11, 12, 6, 13, 14, 15, 16, 17, 104, 105, 106, 107, 108, 109, 110, 111, 112, 113] (by decide +kernel) (by decide +kernel)
set_option maxRecDepth 20000 in
theorem gX11_richest_X4_richestThere : GoodIn wsX11_richest (wsV RX11 171 RX4 yX4_richestThere wsX4_richestThere) := goodIn_app (goodIn_of _ (by decide +kernel)) ggX11_richest_X4_richestThere
set_option maxRecDepth 20000 in
theorem ggX11_richest_X4_daysToRent : GoodIn wsX11_richest wsX4_daysToRent := goodIn_r _ [21, 22, 104, 105, 106, 107, 108, 109, 110, 111, 112, 113] (by decide +kernel) (by decide +kernel)
set_option maxRecDepth 20000 in
theorem gX11_richest_X4_daysToRent : GoodIn wsX11_richest (wsV RX11 174 RX4 yX4_daysToRent wsX4_daysToRent) := goodIn_app (goodIn_of _ (by decide +kernel)) ggX11_richest_X4_daysToRent
set_option maxRecDepth 20000 in
theorem ggX11_richest_X4_owedBySet : GoodIn wsX11_richest wsX4_owedBySet := goodIn_r _ [26, 8, 15, 16, 17, 27, 28, 29, 6, 30, 31, 32, 33, 34, 35, 36, 37, 38, 39, 40, 41, 42, 43, 44, 45, 46, 47, 48, 49, 50, 51, 52, 53, 54, 55, 56, 57, 58, 59, 60, 61, 62, 63, 64, 65, 66, 67, 68, 69, 70, 71, 72, 73, 104, 105, 106, 107, 108, 109, 110, 111, 112, 113] (by decide +kernel) (by decide +kernel)
set_option maxRecDepth 20000 in
theorem gX11_richest_X4_owedBySet : GoodIn wsX11_richest (wsV RX11 177 RX4 yX4_owedBySet wsX4_owedBySet) := goodIn_app (goodIn_of _ (by decide +kernel)) ggX11_richest_X4_owedBySet
set_option maxRecDepth 20000 in
theorem ggX11_richest_X4_storeOfSet : GoodIn wsX11_richest wsX4_storeOfSet := goodIn_r _ [77, 8, 9, 15, 16, 17, 104, 105, 106, 107, 108, 109, 110, 111, 112, 113] (by decide +kernel) (by decide +kernel)
set_option maxRecDepth 20000 in
theorem gX11_richest_X4_storeOfSet : GoodIn wsX11_richest (wsV RX11 180 RX4 yX4_storeOfSet wsX4_storeOfSet) := goodIn_app (goodIn_of _ (by decide +kernel)) ggX11_richest_X4_storeOfSet
set_option maxRecDepth 20000 in
theorem ggX11_richest_X4_poor : GoodIn wsX11_richest wsX4_poor := goodIn_r _ [81, 8, 9, 10, 11, 12, 6, 13, 14, 15, 16, 17, 27, 28, 29, 30, 31, 32, 33, 34, 35, 36, 37, 38, 39, 40, 41, 42, 43, 44, 45, 46, 47, 48, 49, 50, 51, 52, 53, 54, 55, 56, 57, 58, 59, 60, 61, 62, 63, 64, 65, 66, 67, 68, 69, 70, 71, 72, 73, 104, 105, 106, 107, 108, 109, 110, 111, 112, 113] (by decide +kernel) (by decide +kernel)
set_option maxRecDepth 20000 in
theorem gX11_richest_X4_poor : GoodIn wsX11_richest (wsV RX11 183 RX4 yX4_poor wsX4_poor) := goodIn_app (goodIn_of _ (by decide +kernel)) ggX11_richest_X4_poor
set_option maxRecDepth 20000 in
theorem ggX11_richest_X11_greatestEven : GoodIn wsX11_richest wsX11_greatestEven := goodIn_r _ [85, 1, 2, 86, 87, 88, 89, 90, 91, 92, 74, 75, 76, 6, 77, 8, 9, 15, 16, 17, 23, 24, 25, 26, 27, 28, 29, 30, 31, 32, 33, 34, 35, 36, 37, 38, 39, 40, 41, 42, 43, 44, 45, 46, 47, 48, 49, 50, 51, 52, 53, 54, 55, 56, 57, 58, 59, 60, 61, 62, 63, 64, 65, 66, 67, 68, 69, 70, 71, 72, 73, 97, 98, 99, 100, 101, 102, 103, 104, 105, 106, 107, 108, 109, 110, 111, 112, 113] (by decide +kernel) (by decide +kernel)
set_option maxRecDepth 20000 in
theorem gX11_richest_X11_greatestEven : GoodIn wsX11_richest (wsV RX11 186 RX11 yX11_greatestEven wsX11_greatestEven) := goodIn_app (goodIn_of _ (by decide +kernel)) ggX11_richest_X11_greatestEven
set_option maxRecDepth 20000 in
theorem ggX11_richest_X11_waysToPart : GoodIn wsX11_richest wsX11_waysToPart := goodIn_r _ [96, 1, 2, 74, 75, 76, 6, 77, 8, 9, 15, 16, 17, 97, 98, 99, 100, 101, 102, 103, 104, 105, 106, 107, 108, 109, 110, 111, 112, 113] (by decide +kernel) (by decide +kernel)
set_option maxRecDepth 20000 in
theorem gX11_richest_X11_waysToPart : GoodIn wsX11_richest (wsV RX11 189 RX11 yX11_waysToPart wsX11_waysToPart) := goodIn_app (goodIn_of _ (by decide +kernel)) ggX11_richest_X11_waysToPart
theorem dX11_richest_0 : decode cX11_richest 0 = .ok (.iload_n 1, 1) := by decide +kernel
theorem dX11_richest_1 : decode cX11_richest 1 = .ok (.tableswitch 107 0 6 #[43, 51, 59, 74, 89, 97, 102], 43) := by decide +kernel
theorem dX11_richest_44 : decode cX11_richest 44 = .ok (.aload_n 0, 1) := by decide +kernel
theorem dX11_richest_45 : decode cX11_richest 45 = .ok (.getfield 10, 3) := by decide +kernel
theorem dX11_richest_48 : decode cX11_richest 48 = .ok (.invokevirtual 171, 3) := by decide +kernel
theorem dX11_richest_51 : decode cX11_richest 51 = .ok (.ireturn, 1) := by decide +kernel
theorem dX11_richest_52 : decode cX11_richest 52 = .ok (.aload_n 0, 1) := by decide +kernel
theorem dX11_richest_53 : decode cX11_richest 53 = .ok (.getfield 10, 3) := by decide +kernel
theorem dX11_richest_56 : decode cX11_richest 56 = .ok (.invokevirtual 174, 3) := by decide +kernel
theorem dX11_richest_59 : decode cX11_richest 59 = .ok (.ireturn, 1) := by decide +kernel
theorem dX11_richest_60 : decode cX11_richest 60 = .ok (.aload_n 0, 1) := by decide +kernel
theorem dX11_richest_61 : decode cX11_richest 61 = .ok (.getfield 10, 3) := by decide +kernel
theorem dX11_richest_64 : decode cX11_richest 64 = .ok (.aload_n 0, 1) := by decide +kernel
theorem dX11_richest_65 : decode cX11_richest 65 = .ok (.getfield 10, 3) := by decide +kernel
theorem dX11_richest_68 : decode cX11_richest 68 = .ok (.getfield 139, 3) := by decide +kernel
theorem dX11_richest_71 : decode cX11_richest 71 = .ok (.invokevirtual 177, 3) := by decide +kernel
theorem dX11_richest_74 : decode cX11_richest 74 = .ok (.ireturn, 1) := by decide +kernel
theorem dX11_richest_75 : decode cX11_richest 75 = .ok (.aload_n 0, 1) := by decide +kernel
theorem dX11_richest_76 : decode cX11_richest 76 = .ok (.getfield 10, 3) := by decide +kernel
theorem dX11_richest_79 : decode cX11_richest 79 = .ok (.aload_n 0, 1) := by decide +kernel
theorem dX11_richest_80 : decode cX11_richest 80 = .ok (.getfield 10, 3) := by decide +kernel
theorem dX11_richest_83 : decode cX11_richest 83 = .ok (.getfield 139, 3) := by decide +kernel
theorem dX11_richest_86 : decode cX11_richest 86 = .ok (.invokevirtual 180, 3) := by decide +kernel
theorem dX11_richest_89 : decode cX11_richest 89 = .ok (.ireturn, 1) := by decide +kernel
theorem dX11_richest_90 : decode cX11_richest 90 = .ok (.aload_n 0, 1) := by decide +kernel
theorem dX11_richest_91 : decode cX11_richest 91 = .ok (.getfield 10, 3) := by decide +kernel
theorem dX11_richest_94 : decode cX11_richest 94 = .ok (.invokevirtual 183, 3) := by decide +kernel
theorem dX11_richest_97 : decode cX11_richest 97 = .ok (.ireturn, 1) := by decide +kernel
theorem dX11_richest_98 : decode cX11_richest 98 = .ok (.aload_n 0, 1) := by decide +kernel
theorem dX11_richest_99 : decode cX11_richest 99 = .ok (.invokevirtual 186, 3) := by decide +kernel
theorem dX11_richest_102 : decode cX11_richest 102 = .ok (.ireturn, 1) := by decide +kernel
theorem dX11_richest_103 : decode cX11_richest 103 = .ok (.aload_n 0, 1) := by decide +kernel
theorem dX11_richest_104 : decode cX11_richest 104 = .ok (.invokevirtual 189, 3) := by decide +kernel
theorem dX11_richest_107 : decode cX11_richest 107 = .ok (.ireturn, 1) := by decide +kernel
theorem dX11_richest_108 : decode cX11_richest 108 = .ok (.iconst (-1), 1) := by decide +kernel
theorem dX11_richest_109 : decode cX11_richest 109 = .ok (.ireturn, 1) := by decide +kernel
set_option maxRecDepth 20000 in
theorem ggX11_whomToSend_X4_isThere : GoodIn wsX11_whomToSend wsX4_isThere := goodIn_r _ [8, 9, 10, 11, 12, 183, 184, 185, 186, 187, 188, 189, 190, 191, 192] (by decide +kernel) (by decide +kernel)
set_option maxRecDepth 20000 in
theorem gX11_whomToSend_X4_isThere : GoodIn wsX11_whomToSend (wsV RX11 81 RX4 yX4_isThere wsX4_isThere) := goodIn_app (goodIn_of _ (by decide +kernel)) ggX11_whomToSend_X4_isThere
set_option maxRecDepth 20000 in
theorem ggX11_whomToSend_X4_become : GoodIn wsX11_whomToSend wsX4_become := goodIn_r _ [16, 17, 18, 19, 20, 21, 22, 23, 24, 25, 9, 26, 27, 28, 183, 184, 185, 186, 187, 188, 189, 190, 191, 192] (by decide +kernel) (by decide +kernel)
set_option maxRecDepth 20000 in
theorem gX11_whomToSend_X4_become : GoodIn wsX11_whomToSend (wsV RX11 50 RX4 yX4_become wsX4_become) := goodIn_app (goodIn_of _ (by decide +kernel)) ggX11_whomToSend_X4_become
set_option maxRecDepth 20000 in
theorem ggX11_whomToSend_X4_sendAway : GoodIn wsX11_whomToSend wsX4_sendAway := goodIn_r _ [32, 9, 183, 184, 185, 186, 187, 188, 189, 190, 191, 192] (by decide +kernel) (by decide +kernel)
set_option maxRecDepth 20000 in
theorem gX11_whomToSend_X4_sendAway : GoodIn wsX11_whomToSend (wsV RX11 192 RX4 yX4_sendAway wsX4_sendAway) := goodIn_app (goodIn_of _ (by decide +kernel)) ggX11_whomToSend_X4_sendAway
set_option maxRecDepth 20000 in
theorem ggX11_whomToSend_X4_goOn : GoodIn wsX11_whomToSend wsX4_goOn := goodIn_r _ [36, 37, 38, 39, 7, 40, 28, 25, 23, 41, 42, 43, 44, 45, 46, 47, 48, 5, 6, 8, 9, 10, 11, 12, 49, 50, 51, 52, 53, 17, 22, 27, 54, 55, 56, 57, 58, 59, 60, 61, 62, 63, 64, 65, 66, 67, 68, 69, 70, 71, 72, 73, 74, 75, 76, 77, 78, 79, 80, 81, 82, 83, 84, 85, 86, 87, 88, 89, 90, 91, 92, 93, 94, 95, 96, 97, 98, 26, 99, 100, 101, 102, 103, 104, 105, 106, 107, 108, 109, 110, 111, 112, 113, 114, 115, 116, 117, 118, 119, 120, 121, 122, 123, 124, 125, 126, 127, 128, 129, 130, 131, 132, 133, 134, 135, 136, 137, 138, 139, 140, 141, 142, 143, 144, 145, 146, 147, 148, 149, 150, 151, 152, 153, 154, 155, 156, 157, 158, 159, 160, 161, 162, 24, 163, 30, 31, 32, 183, 184, 185, 186, 187, 188, 189, 190, 191, 192] (by decide +kernel) (by decide +kernel)
set_option maxRecDepth 20000 in
theorem gX11_whomToSend_X4_goOn : GoodIn wsX11_whomToSend (wsV RX11 131 RX4 yX4_goOn wsX4_goOn) := goodIn_app (goodIn_of _ (by decide +kernel)) ggX11_whomToSend_X4_goOn
set_option maxRecDepth 20000 in
theorem ggX11_whomToSend_X4_howManyThere : GoodIn wsX11_whomToSend wsX4_howManyThere := goodIn_r _ [167, 9, 168, 169, 170, 171, 172, 173, 174, 183, 184, 185, 186, 187, 188, 189, 190, 191, 192] (by decide +kernel) (by decide +kernel)
set_option maxRecDepth 20000 in
theorem gX11_whomToSend_X4_howManyThere : GoodIn wsX11_whomToSend (wsV RX11 135 RX4 yX4_howManyThere wsX4_howManyThere) := goodIn_app (goodIn_of _ (by decide +kernel)) ggX11_whomToSend_X4_howManyThere
set_option maxRecDepth 20000 in
theorem ggX11_whomToSend_J6_bitCount_0f7a4 : GoodIn wsX11_whomToSend wsJ6_bitCount_0f7a4 := goodIn_r _ [171, 172, 173, 174] (by decide +kernel) (by decide +kernel)
set_option maxRecDepth 20000 in
theorem gX11_whomToSend_J6_bitCount_0f7a4 : GoodIn wsX11_whomToSend (va_wsS RX11 195 yJ6_bitCount_0f7a4 wsJ6_bitCount_0f7a4) := goodIn_app (goodIn_of _ (by decide +kernel)) ggX11_whomToSend_J6_bitCount_0f7a4
theorem dX11_whomToSend_0 : decode cX11_whomToSend 0 = .ok (.bipush (-4), 2) := by decide +kernel
theorem dX11_whomToSend_2 : decode cX11_whomToSend 2 = .ok (.istore_n 3, 1) := by decide +kernel
theorem dX11_whomToSend_3 : decode cX11_whomToSend 3 = .ok (.iconst (-1), 1) := by decide +kernel
theorem dX11_whomToSend_4 : decode cX11_whomToSend 4 = .ok (.istore 4, 2) := by decide +kernel
theorem dX11_whomToSend_6 : decode cX11_whomToSend 6 = .ok (.iconst 0, 1) := by decide +kernel
theorem dX11_whomToSend_7 : decode cX11_whomToSend 7 = .ok (.istore 5, 2) := by decide +kernel
theorem dX11_whomToSend_9 : decode cX11_whomToSend 9 = .ok (.iload 5, 2) := by decide +kernel
theorem dX11_whomToSend_11 : decode cX11_whomToSend 11 = .ok (.aload_n 0, 1) := by decide +kernel
theorem dX11_whomToSend_12 : decode cX11_whomToSend 12 = .ok (.getfield 10, 3) := by decide +kernel
theorem dX11_whomToSend_15 : decode cX11_whomToSend 15 = .ok (.getfield 108, 3) := by decide +kernel
theorem dX11_whomToSend_18 : decode cX11_whomToSend 18 = .ok (.if_icmp .ge 91, 3) := by decide +kernel
theorem dX11_whomToSend_21 : decode cX11_whomToSend 21 = .ok (.aload_n 0, 1) := by decide +kernel
theorem dX11_whomToSend_22 : decode cX11_whomToSend 22 = .ok (.getfield 10, 3) := by decide +kernel
theorem dX11_whomToSend_25 : decode cX11_whomToSend 25 = .ok (.iload 5, 2) := by decide +kernel
theorem dX11_whomToSend_27 : decode cX11_whomToSend 27 = .ok (.invokevirtual 81, 3) := by decide +kernel
theorem dX11_whomToSend_30 : decode cX11_whomToSend 30 = .ok (.ifCond .ne 6, 3) := by decide +kernel
theorem dX11_whomToSend_33 : decode cX11_whomToSend 33 = .ok (.goto 70, 3) := by decide +kernel
theorem dX11_whomToSend_36 : decode cX11_whomToSend 36 = .ok (.aload_n 0, 1) := by decide +kernel
theorem dX11_whomToSend_37 : decode cX11_whomToSend 37 = .ok (.getfield 19, 3) := by decide +kernel
theorem dX11_whomToSend_40 : decode cX11_whomToSend 40 = .ok (.aload_n 0, 1) := by decide +kernel
theorem dX11_whomToSend_41 : decode cX11_whomToSend 41 = .ok (.getfield 10, 3) := by decide +kernel
theorem dX11_whomToSend_44 : decode cX11_whomToSend 44 = .ok (.invokevirtual 50, 3) := by decide +kernel
theorem dX11_whomToSend_47 : decode cX11_whomToSend 47 = .ok (.aload_n 0, 1) := by decide +kernel
theorem dX11_whomToSend_48 : decode cX11_whomToSend 48 = .ok (.getfield 19, 3) := by decide +kernel
theorem dX11_whomToSend_51 : decode cX11_whomToSend 51 = .ok (.iload 5, 2) := by decide +kernel
theorem dX11_whomToSend_53 : decode cX11_whomToSend 53 = .ok (.invokevirtual 192, 3) := by decide +kernel
theorem dX11_whomToSend_56 : decode cX11_whomToSend 56 = .ok (.aload_n 0, 1) := by decide +kernel
theorem dX11_whomToSend_57 : decode cX11_whomToSend 57 = .ok (.getfield 19, 3) := by decide +kernel
theorem dX11_whomToSend_60 : decode cX11_whomToSend 60 = .ok (.iload_n 1, 1) := by decide +kernel
theorem dX11_whomToSend_61 : decode cX11_whomToSend 61 = .ok (.invokevirtual 131, 3) := by decide +kernel
theorem dX11_whomToSend_64 : decode cX11_whomToSend 64 = .ok (.aload_n 0, 1) := by decide +kernel
theorem dX11_whomToSend_65 : decode cX11_whomToSend 65 = .ok (.getfield 19, 3) := by decide +kernel
theorem dX11_whomToSend_68 : decode cX11_whomToSend 68 = .ok (.invokevirtual 135, 3) := by decide +kernel
theorem dX11_whomToSend_71 : decode cX11_whomToSend 71 = .ok (.istore 6, 2) := by decide +kernel
theorem dX11_whomToSend_73 : decode cX11_whomToSend 73 = .ok (.iload 6, 2) := by decide +kernel
theorem dX11_whomToSend_75 : decode cX11_whomToSend 75 = .ok (.iload_n 2, 1) := by decide +kernel
theorem dX11_whomToSend_76 : decode cX11_whomToSend 76 = .ok (.iconst 1, 1) := by decide +kernel
theorem dX11_whomToSend_77 : decode cX11_whomToSend 77 = .ok (.iload 5, 2) := by decide +kernel
theorem dX11_whomToSend_79 : decode cX11_whomToSend 79 = .ok (.ishl, 1) := by decide +kernel
theorem dX11_whomToSend_80 : decode cX11_whomToSend 80 = .ok (.iconst (-1), 1) := by decide +kernel
theorem dX11_whomToSend_81 : decode cX11_whomToSend 81 = .ok (.ixor, 1) := by decide +kernel
theorem dX11_whomToSend_82 : decode cX11_whomToSend 82 = .ok (.iand, 1) := by decide +kernel
theorem dX11_whomToSend_83 : decode cX11_whomToSend 83 = .ok (.invokestatic 195, 3) := by decide +kernel
theorem dX11_whomToSend_86 : decode cX11_whomToSend 86 = .ok (.if_icmp .le 17, 3) := by decide +kernel
theorem dX11_whomToSend_89 : decode cX11_whomToSend 89 = .ok (.iload 6, 2) := by decide +kernel
theorem dX11_whomToSend_91 : decode cX11_whomToSend 91 = .ok (.iload 4, 2) := by decide +kernel
theorem dX11_whomToSend_93 : decode cX11_whomToSend 93 = .ok (.if_icmp .le 10, 3) := by decide +kernel
theorem dX11_whomToSend_96 : decode cX11_whomToSend 96 = .ok (.iload 6, 2) := by decide +kernel
theorem dX11_whomToSend_98 : decode cX11_whomToSend 98 = .ok (.istore 4, 2) := by decide +kernel
theorem dX11_whomToSend_100 : decode cX11_whomToSend 100 = .ok (.iload 5, 2) := by decide +kernel
theorem dX11_whomToSend_102 : decode cX11_whomToSend 102 = .ok (.istore_n 3, 1) := by decide +kernel
theorem dX11_whomToSend_103 : decode cX11_whomToSend 103 = .ok (.iinc 5 1, 3) := by decide +kernel
theorem dX11_whomToSend_106 : decode cX11_whomToSend 106 = .ok (.goto (-97), 3) := by decide +kernel
theorem dX11_whomToSend_109 : decode cX11_whomToSend 109 = .ok (.iload_n 3, 1) := by decide +kernel
theorem dX11_whomToSend_110 : decode cX11_whomToSend 110 = .ok (.ireturn, 1) := by decide +kernel
set_option maxRecDepth 20000 in
theorem ggX11_whoShouldTurn_X4_isThere : GoodIn wsX11_whoShouldTurn wsX4_isThere := goodIn_r _ [9, 10, 11, 12, 13, 182, 183, 184, 185, 186, 187, 188, 189, 190, 191] (by decide +kernel) (by decide +kernel)
set_option maxRecDepth 20000 in
theorem gX11_whoShouldTurn_X4_isThere : GoodIn wsX11_whoShouldTurn (wsV RX11 81 RX4 yX4_isThere wsX4_isThere) := goodIn_app (goodIn_of _ (by decide +kernel)) ggX11_whoShouldTurn_X4_isThere
set_option maxRecDepth 20000 in
theorem ggX11_whoShouldTurn_X4_become : GoodIn wsX11_whoShouldTurn wsX4_become := goodIn_r _ [17, 18, 19, 20, 21, 22, 23, 24, 25, 26, 10, 27, 28, 29, 182, 183, 184, 185, 186, 187, 188, 189, 190, 191] (by decide +kernel) (by decide +kernel)
set_option maxRecDepth 20000 in
theorem gX11_whoShouldTurn_X4_become : GoodIn wsX11_whoShouldTurn (wsV RX11 50 RX4 yX4_become wsX4_become) := goodIn_app (goodIn_of _ (by decide +kernel)) ggX11_whoShouldTurn_X4_become
set_option maxRecDepth 20000 in
theorem ggX11_whoShouldTurn_X4_goOn : GoodIn wsX11_whoShouldTurn wsX4_goOn := goodIn_r _ [33, 34, 35, 36, 8, 37, 29, 26, 24, 38, 39, 40, 41, 42, 43, 44, 45, 6, 7, 9, 10, 11, 12, 13, 46, 47, 48, 49, 50, 18, 23, 28, 51, 52, 53, 54, 55, 56, 57, 58, 59, 60, 61, 62, 63, 64, 65, 66, 67, 68, 69, 70, 71, 72, 73, 74, 75, 76, 77, 78, 79, 80, 81, 82, 83, 84, 85, 86, 87, 88, 89, 90, 91, 92, 93, 94, 95, 27, 96, 97, 98, 99, 100, 101, 102, 103, 104, 105, 106, 107, 108, 109, 110, 111, 112, 113, 114, 115, 116, 117, 118, 119, 120, 121, 122, 123, 124, 125, 126, 127, 128, 129, 130, 131, 132, 133, 134, 135, 136, 137, 138, 139, 140, 141, 142, 143, 144, 145, 146, 147, 148, 149, 150, 151, 152, 153, 154, 155, 156, 157, 158, 159, 25, 160, 161, 162, 163, 182, 183, 184, 185, 186, 187, 188, 189, 190, 191] (by decide +kernel) (by decide +kernel)
set_option maxRecDepth 20000 in
theorem gX11_whoShouldTurn_X4_goOn : GoodIn wsX11_whoShouldTurn (wsV RX11 131 RX4 yX4_goOn wsX4_goOn) := goodIn_app (goodIn_of _ (by decide +kernel)) ggX11_whoShouldTurn_X4_goOn
set_option maxRecDepth 20000 in
theorem ggX11_whoShouldTurn_X4_howManyThere : GoodIn wsX11_whoShouldTurn wsX4_howManyThere := goodIn_r _ [167, 10, 168, 169, 170, 171, 172, 173, 174, 182, 183, 184, 185, 186, 187, 188, 189, 190, 191] (by decide +kernel) (by decide +kernel)
set_option maxRecDepth 20000 in
theorem gX11_whoShouldTurn_X4_howManyThere : GoodIn wsX11_whoShouldTurn (wsV RX11 135 RX4 yX4_howManyThere wsX4_howManyThere) := goodIn_app (goodIn_of _ (by decide +kernel)) ggX11_whoShouldTurn_X4_howManyThere
theorem dX11_whoShouldTurn_0 : decode cX11_whoShouldTurn 0 = .ok (.bipush (-4), 2) := by decide +kernel
theorem dX11_whoShouldTurn_2 : decode cX11_whoShouldTurn 2 = .ok (.istore_n 3, 1) := by decide +kernel
theorem dX11_whoShouldTurn_3 : decode cX11_whoShouldTurn 3 = .ok (.iload_n 2, 1) := by decide +kernel
theorem dX11_whoShouldTurn_4 : decode cX11_whoShouldTurn 4 = .ok (.istore 4, 2) := by decide +kernel
theorem dX11_whoShouldTurn_6 : decode cX11_whoShouldTurn 6 = .ok (.iconst 0, 1) := by decide +kernel
theorem dX11_whoShouldTurn_7 : decode cX11_whoShouldTurn 7 = .ok (.istore 5, 2) := by decide +kernel
theorem dX11_whoShouldTurn_9 : decode cX11_whoShouldTurn 9 = .ok (.iload 5, 2) := by decide +kernel
theorem dX11_whoShouldTurn_11 : decode cX11_whoShouldTurn 11 = .ok (.aload_n 0, 1) := by decide +kernel
theorem dX11_whoShouldTurn_12 : decode cX11_whoShouldTurn 12 = .ok (.getfield 10, 3) := by decide +kernel
theorem dX11_whoShouldTurn_15 : decode cX11_whoShouldTurn 15 = .ok (.getfield 108, 3) := by decide +kernel
theorem dX11_whoShouldTurn_18 : decode cX11_whoShouldTurn 18 = .ok (.if_icmp .ge 149, 3) := by decide +kernel
theorem dX11_whoShouldTurn_21 : decode cX11_whoShouldTurn 21 = .ok (.iload 5, 2) := by decide +kernel
theorem dX11_whoShouldTurn_23 : decode cX11_whoShouldTurn 23 = .ok (.iconst 1, 1) := by decide +kernel
theorem dX11_whoShouldTurn_24 : decode cX11_whoShouldTurn 24 = .ok (.iadd, 1) := by decide +kernel
theorem dX11_whoShouldTurn_25 : decode cX11_whoShouldTurn 25 = .ok (.istore 6, 2) := by decide +kernel
theorem dX11_whoShouldTurn_27 : decode cX11_whoShouldTurn 27 = .ok (.iload 6, 2) := by decide +kernel
theorem dX11_whoShouldTurn_29 : decode cX11_whoShouldTurn 29 = .ok (.aload_n 0, 1) := by decide +kernel
theorem dX11_whoShouldTurn_30 : decode cX11_whoShouldTurn 30 = .ok (.getfield 10, 3) := by decide +kernel
theorem dX11_whoShouldTurn_33 : decode cX11_whoShouldTurn 33 = .ok (.getfield 108, 3) := by decide +kernel
theorem dX11_whoShouldTurn_36 : decode cX11_whoShouldTurn 36 = .ok (.if_icmp .ge 125, 3) := by decide +kernel
theorem dX11_whoShouldTurn_39 : decode cX11_whoShouldTurn 39 = .ok (.aload_n 0, 1) := by decide +kernel
theorem dX11_whoShouldTurn_40 : decode cX11_whoShouldTurn 40 = .ok (.getfield 10, 3) := by decide +kernel
theorem dX11_whoShouldTurn_43 : decode cX11_whoShouldTurn 43 = .ok (.iload 5, 2) := by decide +kernel
theorem dX11_whoShouldTurn_45 : decode cX11_whoShouldTurn 45 = .ok (.invokevirtual 81, 3) := by decide +kernel
theorem dX11_whoShouldTurn_48 : decode cX11_whoShouldTurn 48 = .ok (.ifCond .eq 107, 3) := by decide +kernel
theorem dX11_whoShouldTurn_51 : decode cX11_whoShouldTurn 51 = .ok (.aload_n 0, 1) := by decide +kernel
theorem dX11_whoShouldTurn_52 : decode cX11_whoShouldTurn 52 = .ok (.getfield 10, 3) := by decide +kernel
theorem dX11_whoShouldTurn_55 : decode cX11_whoShouldTurn 55 = .ok (.iload 6, 2) := by decide +kernel
theorem dX11_whoShouldTurn_57 : decode cX11_whoShouldTurn 57 = .ok (.invokevirtual 81, 3) := by decide +kernel
theorem dX11_whoShouldTurn_60 : decode cX11_whoShouldTurn 60 = .ok (.ifCond .ne 6, 3) := by decide +kernel
theorem dX11_whoShouldTurn_63 : decode cX11_whoShouldTurn 63 = .ok (.goto 92, 3) := by decide +kernel
theorem dX11_whoShouldTurn_66 : decode cX11_whoShouldTurn 66 = .ok (.aload_n 0, 1) := by decide +kernel
theorem dX11_whoShouldTurn_67 : decode cX11_whoShouldTurn 67 = .ok (.getfield 19, 3) := by decide +kernel
theorem dX11_whoShouldTurn_70 : decode cX11_whoShouldTurn 70 = .ok (.aload_n 0, 1) := by decide +kernel
theorem dX11_whoShouldTurn_71 : decode cX11_whoShouldTurn 71 = .ok (.getfield 10, 3) := by decide +kernel
theorem dX11_whoShouldTurn_74 : decode cX11_whoShouldTurn 74 = .ok (.invokevirtual 50, 3) := by decide +kernel
theorem dX11_whoShouldTurn_77 : decode cX11_whoShouldTurn 77 = .ok (.aload_n 0, 1) := by decide +kernel
theorem dX11_whoShouldTurn_78 : decode cX11_whoShouldTurn 78 = .ok (.getfield 19, 3) := by decide +kernel
theorem dX11_whoShouldTurn_81 : decode cX11_whoShouldTurn 81 = .ok (.getfield 75, 3) := by decide +kernel
theorem dX11_whoShouldTurn_84 : decode cX11_whoShouldTurn 84 = .ok (.iload 5, 2) := by decide +kernel
theorem dX11_whoShouldTurn_86 : decode cX11_whoShouldTurn 86 = .ok (.aload_n 0, 1) := by decide +kernel
theorem dX11_whoShouldTurn_87 : decode cX11_whoShouldTurn 87 = .ok (.getfield 10, 3) := by decide +kernel
theorem dX11_whoShouldTurn_90 : decode cX11_whoShouldTurn 90 = .ok (.getfield 75, 3) := by decide +kernel
theorem dX11_whoShouldTurn_93 : decode cX11_whoShouldTurn 93 = .ok (.iload 6, 2) := by decide +kernel
theorem dX11_whoShouldTurn_95 : decode cX11_whoShouldTurn 95 = .ok (.iaload, 1) := by decide +kernel
theorem dX11_whoShouldTurn_96 : decode cX11_whoShouldTurn 96 = .ok (.iastore, 1) := by decide +kernel
theorem dX11_whoShouldTurn_97 : decode cX11_whoShouldTurn 97 = .ok (.aload_n 0, 1) := by decide +kernel
theorem dX11_whoShouldTurn_98 : decode cX11_whoShouldTurn 98 = .ok (.getfield 19, 3) := by decide +kernel
theorem dX11_whoShouldTurn_101 : decode cX11_whoShouldTurn 101 = .ok (.getfield 75, 3) := by decide +kernel
theorem dX11_whoShouldTurn_104 : decode cX11_whoShouldTurn 104 = .ok (.iload 6, 2) := by decide +kernel
theorem dX11_whoShouldTurn_106 : decode cX11_whoShouldTurn 106 = .ok (.aload_n 0, 1) := by decide +kernel
theorem dX11_whoShouldTurn_107 : decode cX11_whoShouldTurn 107 = .ok (.getfield 10, 3) := by decide +kernel
theorem dX11_whoShouldTurn_110 : decode cX11_whoShouldTurn 110 = .ok (.getfield 75, 3) := by decide +kernel
theorem dX11_whoShouldTurn_113 : decode cX11_whoShouldTurn 113 = .ok (.iload 5, 2) := by decide +kernel
theorem dX11_whoShouldTurn_115 : decode cX11_whoShouldTurn 115 = .ok (.iaload, 1) := by decide +kernel
theorem dX11_whoShouldTurn_116 : decode cX11_whoShouldTurn 116 = .ok (.iastore, 1) := by decide +kernel
theorem dX11_whoShouldTurn_117 : decode cX11_whoShouldTurn 117 = .ok (.aload_n 0, 1) := by decide +kernel
theorem dX11_whoShouldTurn_118 : decode cX11_whoShouldTurn 118 = .ok (.getfield 19, 3) := by decide +kernel
theorem dX11_whoShouldTurn_121 : decode cX11_whoShouldTurn 121 = .ok (.iload_n 1, 1) := by decide +kernel
theorem dX11_whoShouldTurn_122 : decode cX11_whoShouldTurn 122 = .ok (.invokevirtual 131, 3) := by decide +kernel
theorem dX11_whoShouldTurn_125 : decode cX11_whoShouldTurn 125 = .ok (.aload_n 0, 1) := by decide +kernel
theorem dX11_whoShouldTurn_126 : decode cX11_whoShouldTurn 126 = .ok (.getfield 19, 3) := by decide +kernel
theorem dX11_whoShouldTurn_129 : decode cX11_whoShouldTurn 129 = .ok (.invokevirtual 135, 3) := by decide +kernel
theorem dX11_whoShouldTurn_132 : decode cX11_whoShouldTurn 132 = .ok (.iload 4, 2) := by decide +kernel
theorem dX11_whoShouldTurn_134 : decode cX11_whoShouldTurn 134 = .ok (.if_icmp .le 21, 3) := by decide +kernel
theorem dX11_whoShouldTurn_137 : decode cX11_whoShouldTurn 137 = .ok (.aload_n 0, 1) := by decide +kernel
theorem dX11_whoShouldTurn_138 : decode cX11_whoShouldTurn 138 = .ok (.getfield 19, 3) := by decide +kernel
theorem dX11_whoShouldTurn_141 : decode cX11_whoShouldTurn 141 = .ok (.invokevirtual 135, 3) := by decide +kernel
theorem dX11_whoShouldTurn_144 : decode cX11_whoShouldTurn 144 = .ok (.istore 4, 2) := by decide +kernel
theorem dX11_whoShouldTurn_146 : decode cX11_whoShouldTurn 146 = .ok (.bipush 10, 2) := by decide +kernel
theorem dX11_whoShouldTurn_148 : decode cX11_whoShouldTurn 148 = .ok (.iload 5, 2) := by decide +kernel
theorem dX11_whoShouldTurn_150 : decode cX11_whoShouldTurn 150 = .ok (.imul, 1) := by decide +kernel
theorem dX11_whoShouldTurn_151 : decode cX11_whoShouldTurn 151 = .ok (.iload 6, 2) := by decide +kernel
theorem dX11_whoShouldTurn_153 : decode cX11_whoShouldTurn 153 = .ok (.iadd, 1) := by decide +kernel
theorem dX11_whoShouldTurn_154 : decode cX11_whoShouldTurn 154 = .ok (.istore_n 3, 1) := by decide +kernel
theorem dX11_whoShouldTurn_155 : decode cX11_whoShouldTurn 155 = .ok (.iinc 6 1, 3) := by decide +kernel
theorem dX11_whoShouldTurn_158 : decode cX11_whoShouldTurn 158 = .ok (.goto (-131), 3) := by decide +kernel
theorem dX11_whoShouldTurn_161 : decode cX11_whoShouldTurn 161 = .ok (.iinc 5 1, 3) := by decide +kernel
theorem dX11_whoShouldTurn_164 : decode cX11_whoShouldTurn 164 = .ok (.goto (-155), 3) := by decide +kernel
theorem dX11_whoShouldTurn_167 : decode cX11_whoShouldTurn 167 = .ok (.iload_n 3, 1) := by decide +kernel
theorem dX11_whoShouldTurn_168 : decode cX11_whoShouldTurn 168 = .ok (.ireturn, 1) := by decide +kernel
set_option maxRecDepth 20000 in
theorem ggX11_greatestEven_J6_bitCount_0f7a4 : GoodIn wsX11_greatestEven wsJ6_bitCount_0f7a4 := goodIn_r _ [6, 7, 8, 9] (by decide +kernel) (by decide +kernel)
set_option maxRecDepth 20000 in
theorem gX11_greatestEven_J6_bitCount_0f7a4 : GoodIn wsX11_greatestEven (va_wsS RX11 195 yJ6_bitCount_0f7a4 wsJ6_bitCount_0f7a4) := goodIn_app (goodIn_of _ (by decide +kernel)) ggX11_greatestEven_J6_bitCount_0f7a4
set_option maxRecDepth 20000 in
theorem ggX11_greatestEven_X4_storeOfSet : GoodIn wsX11_greatestEven wsX4_storeOfSet := goodIn_r _ [14, 15, 16, 17, 18, 19, 78, 79, 80, 81, 82, 83, 84, 85, 86, 87] (by decide +kernel) (by decide +kernel)
set_option maxRecDepth 20000 in
theorem gX11_greatestEven_X4_storeOfSet : GoodIn wsX11_greatestEven (wsV RX11 180 RX4 yX4_storeOfSet wsX4_storeOfSet) := goodIn_app (goodIn_of _ (by decide +kernel)) ggX11_greatestEven_X4_storeOfSet
set_option maxRecDepth 20000 in
theorem ggX11_greatestEven_X4_owedBySet : GoodIn wsX11_greatestEven wsX4_owedBySet := goodIn_r _ [23, 15, 17, 18, 19, 24, 25, 26, 13, 27, 28, 29, 30, 31, 32, 33, 34, 35, 36, 37, 38, 39, 40, 41, 42, 43, 44, 45, 46, 47, 48, 49, 50, 51, 52, 53, 54, 55, 56, 57, 58, 59, 60, 61, 62, 63, 64, 65, 66, 67, 68, 69, 70, 78, 79, 80, 81, 82, 83, 84, 85, 86, 87] (by decide +kernel) (by decide +kernel)
set_option maxRecDepth 20000 in
theorem gX11_greatestEven_X4_owedBySet : GoodIn wsX11_greatestEven (wsV RX11 177 RX4 yX4_owedBySet wsX4_owedBySet) := goodIn_app (goodIn_of _ (by decide +kernel)) ggX11_greatestEven_X4_owedBySet
theorem dX11_greatestEven_0 : decode cX11_greatestEven 0 = .ok (.iconst 0, 1) := by decide +kernel
theorem dX11_greatestEven_1 : decode cX11_greatestEven 1 = .ok (.istore_n 1, 1) := by decide +kernel
theorem dX11_greatestEven_2 : decode cX11_greatestEven 2 = .ok (.iconst 1, 1) := by decide +kernel
theorem dX11_greatestEven_3 : decode cX11_greatestEven 3 = .ok (.istore_n 2, 1) := by decide +kernel
theorem dX11_greatestEven_4 : decode cX11_greatestEven 4 = .ok (.iload_n 2, 1) := by decide +kernel
theorem dX11_greatestEven_5 : decode cX11_greatestEven 5 = .ok (.sipush 128, 3) := by decide +kernel
theorem dX11_greatestEven_8 : decode cX11_greatestEven 8 = .ok (.if_icmp .ge 57, 3) := by decide +kernel
theorem dX11_greatestEven_11 : decode cX11_greatestEven 11 = .ok (.iload_n 2, 1) := by decide +kernel
theorem dX11_greatestEven_12 : decode cX11_greatestEven 12 = .ok (.aload_n 0, 1) := by decide +kernel
theorem dX11_greatestEven_13 : decode cX11_greatestEven 13 = .ok (.getfield 10, 3) := by decide +kernel
theorem dX11_greatestEven_16 : decode cX11_greatestEven 16 = .ok (.getfield 139, 3) := by decide +kernel
theorem dX11_greatestEven_19 : decode cX11_greatestEven 19 = .ok (.iconst (-1), 1) := by decide +kernel
theorem dX11_greatestEven_20 : decode cX11_greatestEven 20 = .ok (.ixor, 1) := by decide +kernel
theorem dX11_greatestEven_21 : decode cX11_greatestEven 21 = .ok (.iand, 1) := by decide +kernel
theorem dX11_greatestEven_22 : decode cX11_greatestEven 22 = .ok (.ifCond .ne 37, 3) := by decide +kernel
theorem dX11_greatestEven_25 : decode cX11_greatestEven 25 = .ok (.iload_n 2, 1) := by decide +kernel
theorem dX11_greatestEven_26 : decode cX11_greatestEven 26 = .ok (.invokestatic 195, 3) := by decide +kernel
theorem dX11_greatestEven_29 : decode cX11_greatestEven 29 = .ok (.iload_n 1, 1) := by decide +kernel
theorem dX11_greatestEven_30 : decode cX11_greatestEven 30 = .ok (.invokestatic 195, 3) := by decide +kernel
theorem dX11_greatestEven_33 : decode cX11_greatestEven 33 = .ok (.if_icmp .le 26, 3) := by decide +kernel
theorem dX11_greatestEven_36 : decode cX11_greatestEven 36 = .ok (.aload_n 0, 1) := by decide +kernel
theorem dX11_greatestEven_37 : decode cX11_greatestEven 37 = .ok (.getfield 10, 3) := by decide +kernel
theorem dX11_greatestEven_40 : decode cX11_greatestEven 40 = .ok (.iload_n 2, 1) := by decide +kernel
theorem dX11_greatestEven_41 : decode cX11_greatestEven 41 = .ok (.invokevirtual 180, 3) := by decide +kernel
theorem dX11_greatestEven_44 : decode cX11_greatestEven 44 = .ok (.iconst 2, 1) := by decide +kernel
theorem dX11_greatestEven_45 : decode cX11_greatestEven 45 = .ok (.aload_n 0, 1) := by decide +kernel
theorem dX11_greatestEven_46 : decode cX11_greatestEven 46 = .ok (.getfield 10, 3) := by decide +kernel
theorem dX11_greatestEven_49 : decode cX11_greatestEven 49 = .ok (.iload_n 2, 1) := by decide +kernel
theorem dX11_greatestEven_50 : decode cX11_greatestEven 50 = .ok (.invokevirtual 177, 3) := by decide +kernel
theorem dX11_greatestEven_53 : decode cX11_greatestEven 53 = .ok (.imul, 1) := by decide +kernel
theorem dX11_greatestEven_54 : decode cX11_greatestEven 54 = .ok (.if_icmp .lt 5, 3) := by decide +kernel
theorem dX11_greatestEven_57 : decode cX11_greatestEven 57 = .ok (.iload_n 2, 1) := by decide +kernel
theorem dX11_greatestEven_58 : decode cX11_greatestEven 58 = .ok (.istore_n 1, 1) := by decide +kernel
theorem dX11_greatestEven_59 : decode cX11_greatestEven 59 = .ok (.iinc 2 1, 3) := by decide +kernel
theorem dX11_greatestEven_62 : decode cX11_greatestEven 62 = .ok (.goto (-58), 3) := by decide +kernel
theorem dX11_greatestEven_65 : decode cX11_greatestEven 65 = .ok (.iload_n 1, 1) := by decide +kernel
theorem dX11_greatestEven_66 : decode cX11_greatestEven 66 = .ok (.ireturn, 1) := by decide +kernel
set_option maxRecDepth 20000 in
theorem ggX11_waysToPart_X4_storeOfSet : GoodIn wsX11_waysToPart wsX4_storeOfSet := goodIn_r _ [7, 8, 9, 10, 11, 12, 20, 21, 22, 23, 24, 25, 26, 27, 28, 29] (by decide +kernel) (by decide +kernel)
set_option maxRecDepth 20000 in
theorem gX11_waysToPart_X4_storeOfSet : GoodIn wsX11_waysToPart (wsV RX11 180 RX4 yX4_storeOfSet wsX4_storeOfSet) := goodIn_app (goodIn_of _ (by decide +kernel)) ggX11_waysToPart_X4_storeOfSet
theorem dX11_waysToPart_0 : decode cX11_waysToPart 0 = .ok (.aload_n 0, 1) := by decide +kernel
theorem dX11_waysToPart_1 : decode cX11_waysToPart 1 = .ok (.getfield 10, 3) := by decide +kernel
theorem dX11_waysToPart_4 : decode cX11_waysToPart 4 = .ok (.aload_n 0, 1) := by decide +kernel
theorem dX11_waysToPart_5 : decode cX11_waysToPart 5 = .ok (.getfield 10, 3) := by decide +kernel
theorem dX11_waysToPart_8 : decode cX11_waysToPart 8 = .ok (.getfield 139, 3) := by decide +kernel
theorem dX11_waysToPart_11 : decode cX11_waysToPart 11 = .ok (.invokevirtual 180, 3) := by decide +kernel
theorem dX11_waysToPart_14 : decode cX11_waysToPart 14 = .ok (.istore_n 1, 1) := by decide +kernel
theorem dX11_waysToPart_15 : decode cX11_waysToPart 15 = .ok (.iconst 0, 1) := by decide +kernel
theorem dX11_waysToPart_16 : decode cX11_waysToPart 16 = .ok (.istore_n 2, 1) := by decide +kernel
theorem dX11_waysToPart_17 : decode cX11_waysToPart 17 = .ok (.iconst 0, 1) := by decide +kernel
theorem dX11_waysToPart_18 : decode cX11_waysToPart 18 = .ok (.istore_n 3, 1) := by decide +kernel
theorem dX11_waysToPart_19 : decode cX11_waysToPart 19 = .ok (.iload_n 3, 1) := by decide +kernel
theorem dX11_waysToPart_20 : decode cX11_waysToPart 20 = .ok (.sipush 128, 3) := by decide +kernel
theorem dX11_waysToPart_23 : decode cX11_waysToPart 23 = .ok (.if_icmp .ge 40, 3) := by decide +kernel
theorem dX11_waysToPart_26 : decode cX11_waysToPart 26 = .ok (.iload_n 3, 1) := by decide +kernel
theorem dX11_waysToPart_27 : decode cX11_waysToPart 27 = .ok (.aload_n 0, 1) := by decide +kernel
theorem dX11_waysToPart_28 : decode cX11_waysToPart 28 = .ok (.getfield 10, 3) := by decide +kernel
theorem dX11_waysToPart_31 : decode cX11_waysToPart 31 = .ok (.getfield 139, 3) := by decide +kernel
theorem dX11_waysToPart_34 : decode cX11_waysToPart 34 = .ok (.iconst (-1), 1) := by decide +kernel
theorem dX11_waysToPart_35 : decode cX11_waysToPart 35 = .ok (.ixor, 1) := by decide +kernel
theorem dX11_waysToPart_36 : decode cX11_waysToPart 36 = .ok (.iand, 1) := by decide +kernel
theorem dX11_waysToPart_37 : decode cX11_waysToPart 37 = .ok (.ifCond .ne 20, 3) := by decide +kernel
theorem dX11_waysToPart_40 : decode cX11_waysToPart 40 = .ok (.iconst 2, 1) := by decide +kernel
theorem dX11_waysToPart_41 : decode cX11_waysToPart 41 = .ok (.aload_n 0, 1) := by decide +kernel
theorem dX11_waysToPart_42 : decode cX11_waysToPart 42 = .ok (.getfield 10, 3) := by decide +kernel
theorem dX11_waysToPart_45 : decode cX11_waysToPart 45 = .ok (.iload_n 3, 1) := by decide +kernel
theorem dX11_waysToPart_46 : decode cX11_waysToPart 46 = .ok (.invokevirtual 180, 3) := by decide +kernel
theorem dX11_waysToPart_49 : decode cX11_waysToPart 49 = .ok (.imul, 1) := by decide +kernel
theorem dX11_waysToPart_50 : decode cX11_waysToPart 50 = .ok (.iload_n 1, 1) := by decide +kernel
theorem dX11_waysToPart_51 : decode cX11_waysToPart 51 = .ok (.if_icmp .ne 6, 3) := by decide +kernel
theorem dX11_waysToPart_54 : decode cX11_waysToPart 54 = .ok (.iinc 2 1, 3) := by decide +kernel
theorem dX11_waysToPart_57 : decode cX11_waysToPart 57 = .ok (.iinc 3 1, 3) := by decide +kernel
theorem dX11_waysToPart_60 : decode cX11_waysToPart 60 = .ok (.goto (-41), 3) := by decide +kernel
theorem dX11_waysToPart_63 : decode cX11_waysToPart 63 = .ok (.iload_n 2, 1) := by decide +kernel
theorem dX11_waysToPart_64 : decode cX11_waysToPart 64 = .ok (.iconst 1, 1) := by decide +kernel
theorem dX11_waysToPart_65 : decode cX11_waysToPart 65 = .ok (.iadd, 1) := by decide +kernel
theorem dX11_waysToPart_66 : decode cX11_waysToPart 66 = .ok (.iconst 2, 1) := by decide +kernel
theorem dX11_waysToPart_67 : decode cX11_waysToPart 67 = .ok (.idiv, 1) := by decide +kernel
theorem dX11_waysToPart_68 : decode cX11_waysToPart 68 = .ok (.ireturn, 1) := by decide +kernel
set_option maxRecDepth 20000 in
theorem ggX11_whatIs_X4_knows : GoodIn wsX11_whatIs wsX4_knows := goodIn_r _ [10, 11, 205, 206, 207, 208, 209, 210, 211, 212, 213, 214] (by decide +kernel) (by decide +kernel)
set_option maxRecDepth 20000 in
theorem gX11_whatIs_X4_knows : GoodIn wsX11_whatIs (wsV RX11 65 RX4 yX4_knows wsX4_knows) := goodIn_app (goodIn_of _ (by decide +kernel)) ggX11_whatIs_X4_knows
set_option maxRecDepth 20000 in
theorem ggX11_whatIs_X11_within : GoodIn wsX11_whatIs wsX11_within := goodIn_r _ [15] (by decide +kernel) (by decide +kernel)
set_option maxRecDepth 20000 in
theorem gX11_whatIs_X11_within : GoodIn wsX11_whatIs (va_wsS RX11 94 yX11_within wsX11_within) := goodIn_app (goodIn_of _ (by decide +kernel)) ggX11_whatIs_X11_within
set_option maxRecDepth 20000 in
theorem ggX11_whatIs_X11_refusalOfRow : GoodIn wsX11_whatIs wsX11_refusalOfRow := goodIn_r _ [19, 20, 21, 22, 14, 23, 5, 24, 25, 26, 27, 12, 13, 15, 198, 199, 200, 201, 202, 203, 204, 215, 216, 217, 218, 219, 220] (by decide +kernel) (by decide +kernel)
set_option maxRecDepth 20000 in
theorem gX11_whatIs_X11_refusalOfRow : GoodIn wsX11_whatIs (wsV RX11 36 RX11 yX11_refusalOfRow wsX11_refusalOfRow) := goodIn_app (goodIn_of _ (by decide +kernel)) ggX11_whatIs_X11_refusalOfRow
set_option maxRecDepth 20000 in
theorem ggX11_whatIs_X4_become : GoodIn wsX11_whatIs wsX4_become := goodIn_r _ [31, 32, 33, 34, 35, 36, 37, 38, 39, 11, 40, 41, 42, 43, 205, 206, 207, 208, 209, 210, 211, 212, 213, 214] (by decide +kernel) (by decide +kernel)
set_option maxRecDepth 20000 in
theorem gX11_whatIs_X4_become : GoodIn wsX11_whatIs (wsV RX11 50 RX4 yX4_become wsX4_become) := goodIn_app (goodIn_of _ (by decide +kernel)) ggX11_whatIs_X4_become
set_option maxRecDepth 20000 in
theorem ggX11_whatIs_X11_tellsStoreOf : GoodIn wsX11_whatIs wsX11_tellsStoreOf := goodIn_r _ [47, 48, 49, 2, 50, 51, 52, 53, 54, 55, 56, 57, 58, 59, 60, 61, 62, 63, 64, 65, 9, 66, 43, 11, 38, 67, 68, 69, 70, 71, 72, 73, 74, 75, 76, 77, 40, 78, 14, 79, 80, 81, 82, 83, 84, 32, 37, 42, 85, 86, 87, 88, 89, 90, 91, 92, 93, 94, 95, 96, 97, 98, 99, 100, 101, 102, 103, 104, 105, 106, 107, 108, 109, 110, 111, 112, 113, 114, 115, 116, 117, 118, 119, 120, 121, 122, 123, 124, 125, 126, 127, 128, 129, 41, 130, 131, 132, 133, 134, 135, 136, 137, 138, 139, 140, 141, 142, 143, 144, 145, 146, 147, 148, 149, 150, 151, 152, 153, 154, 155, 156, 157, 158, 159, 160, 161, 162, 163, 164, 165, 166, 167, 168, 169, 170, 171, 172, 173, 174, 175, 176, 177, 178, 179, 180, 181, 182, 183, 184, 185, 186, 187, 188, 189, 190, 191, 192, 193, 39, 194, 195, 196, 197, 215, 216, 217, 218, 219, 220, 198, 199, 200, 201, 202, 203, 204, 205, 206, 207, 208, 209, 210, 211, 212, 213, 214] (by decide +kernel) (by decide +kernel)
set_option maxRecDepth 20000 in
theorem gX11_whatIs_X11_tellsStoreOf : GoodIn wsX11_whatIs (wsV RX11 198 RX11 yX11_tellsStoreOf wsX11_tellsStoreOf) := goodIn_app (goodIn_of _ (by decide +kernel)) ggX11_whatIs_X11_tellsStoreOf
theorem dX11_whatIs_0 : decode cX11_whatIs 0 = .ok (.aload_n 0, 1) := by decide +kernel
theorem dX11_whatIs_1 : decode cX11_whatIs 1 = .ok (.getfield 10, 3) := by decide +kernel
theorem dX11_whatIs_4 : decode cX11_whatIs 4 = .ok (.iload_n 2, 1) := by decide +kernel
theorem dX11_whatIs_5 : decode cX11_whatIs 5 = .ok (.invokevirtual 65, 3) := by decide +kernel
theorem dX11_whatIs_8 : decode cX11_whatIs 8 = .ok (.ifCond .eq 12, 3) := by decide +kernel
theorem dX11_whatIs_11 : decode cX11_whatIs 11 = .ok (.iload_n 3, 1) := by decide +kernel
theorem dX11_whatIs_12 : decode cX11_whatIs 12 = .ok (.iconst 0, 1) := by decide +kernel
theorem dX11_whatIs_13 : decode cX11_whatIs 13 = .ok (.iconst 1, 1) := by decide +kernel
theorem dX11_whatIs_14 : decode cX11_whatIs 14 = .ok (.invokestatic 94, 3) := by decide +kernel
theorem dX11_whatIs_17 : decode cX11_whatIs 17 = .ok (.ifCond .ne 5, 3) := by decide +kernel
theorem dX11_whatIs_20 : decode cX11_whatIs 20 = .ok (.iconst (-1), 1) := by decide +kernel
theorem dX11_whatIs_21 : decode cX11_whatIs 21 = .ok (.ireturn, 1) := by decide +kernel
theorem dX11_whatIs_22 : decode cX11_whatIs 22 = .ok (.aload_n 0, 1) := by decide +kernel
theorem dX11_whatIs_23 : decode cX11_whatIs 23 = .ok (.iload_n 1, 1) := by decide +kernel
theorem dX11_whatIs_24 : decode cX11_whatIs 24 = .ok (.invokevirtual 36, 3) := by decide +kernel
theorem dX11_whatIs_27 : decode cX11_whatIs 27 = .ok (.istore 4, 2) := by decide +kernel
theorem dX11_whatIs_29 : decode cX11_whatIs 29 = .ok (.iload 4, 2) := by decide +kernel
theorem dX11_whatIs_31 : decode cX11_whatIs 31 = .ok (.ifCond .eq 6, 3) := by decide +kernel
theorem dX11_whatIs_34 : decode cX11_whatIs 34 = .ok (.iload 4, 2) := by decide +kernel
theorem dX11_whatIs_36 : decode cX11_whatIs 36 = .ok (.ireturn, 1) := by decide +kernel
theorem dX11_whatIs_37 : decode cX11_whatIs 37 = .ok (.iload_n 3, 1) := by decide +kernel
theorem dX11_whatIs_38 : decode cX11_whatIs 38 = .ok (.ifCond .ne 8, 3) := by decide +kernel
theorem dX11_whatIs_41 : decode cX11_whatIs 41 = .ok (.bipush 8, 2) := by decide +kernel
theorem dX11_whatIs_43 : decode cX11_whatIs 43 = .ok (.goto 5, 3) := by decide +kernel
theorem dX11_whatIs_46 : decode cX11_whatIs 46 = .ok (.bipush 10, 2) := by decide +kernel
theorem dX11_whatIs_48 : decode cX11_whatIs 48 = .ok (.istore 5, 2) := by decide +kernel
theorem dX11_whatIs_50 : decode cX11_whatIs 50 = .ok (.iconst 0, 1) := by decide +kernel
theorem dX11_whatIs_51 : decode cX11_whatIs 51 = .ok (.istore 6, 2) := by decide +kernel
theorem dX11_whatIs_53 : decode cX11_whatIs 53 = .ok (.iconst 0, 1) := by decide +kernel
theorem dX11_whatIs_54 : decode cX11_whatIs 54 = .ok (.istore 7, 2) := by decide +kernel
theorem dX11_whatIs_56 : decode cX11_whatIs 56 = .ok (.iload 7, 2) := by decide +kernel
theorem dX11_whatIs_58 : decode cX11_whatIs 58 = .ok (.iload 5, 2) := by decide +kernel
theorem dX11_whatIs_60 : decode cX11_whatIs 60 = .ok (.if_icmp .ge 72, 3) := by decide +kernel
theorem dX11_whatIs_63 : decode cX11_whatIs 63 = .ok (.aload_n 0, 1) := by decide +kernel
theorem dX11_whatIs_64 : decode cX11_whatIs 64 = .ok (.getfield 19, 3) := by decide +kernel
theorem dX11_whatIs_67 : decode cX11_whatIs 67 = .ok (.aload_n 0, 1) := by decide +kernel
theorem dX11_whatIs_68 : decode cX11_whatIs 68 = .ok (.getfield 10, 3) := by decide +kernel
theorem dX11_whatIs_71 : decode cX11_whatIs 71 = .ok (.invokevirtual 50, 3) := by decide +kernel
theorem dX11_whatIs_74 : decode cX11_whatIs 74 = .ok (.iload_n 3, 1) := by decide +kernel
theorem dX11_whatIs_75 : decode cX11_whatIs 75 = .ok (.ifCond .ne 17, 3) := by decide +kernel
theorem dX11_whatIs_78 : decode cX11_whatIs 78 = .ok (.aload_n 0, 1) := by decide +kernel
theorem dX11_whatIs_79 : decode cX11_whatIs 79 = .ok (.getfield 19, 3) := by decide +kernel
theorem dX11_whatIs_82 : decode cX11_whatIs 82 = .ok (.getfield 69, 3) := by decide +kernel
theorem dX11_whatIs_85 : decode cX11_whatIs 85 = .ok (.iload_n 2, 1) := by decide +kernel
theorem dX11_whatIs_86 : decode cX11_whatIs 86 = .ok (.iload 7, 2) := by decide +kernel
theorem dX11_whatIs_88 : decode cX11_whatIs 88 = .ok (.iastore, 1) := by decide +kernel
theorem dX11_whatIs_89 : decode cX11_whatIs 89 = .ok (.goto 14, 3) := by decide +kernel
theorem dX11_whatIs_92 : decode cX11_whatIs 92 = .ok (.aload_n 0, 1) := by decide +kernel
theorem dX11_whatIs_93 : decode cX11_whatIs 93 = .ok (.getfield 19, 3) := by decide +kernel
theorem dX11_whatIs_96 : decode cX11_whatIs 96 = .ok (.getfield 72, 3) := by decide +kernel
theorem dX11_whatIs_99 : decode cX11_whatIs 99 = .ok (.iload_n 2, 1) := by decide +kernel
theorem dX11_whatIs_100 : decode cX11_whatIs 100 = .ok (.iload 7, 2) := by decide +kernel
theorem dX11_whatIs_102 : decode cX11_whatIs 102 = .ok (.iastore, 1) := by decide +kernel
theorem dX11_whatIs_103 : decode cX11_whatIs 103 = .ok (.aload_n 0, 1) := by decide +kernel
theorem dX11_whatIs_104 : decode cX11_whatIs 104 = .ok (.aload_n 0, 1) := by decide +kernel
theorem dX11_whatIs_105 : decode cX11_whatIs 105 = .ok (.getfield 24, 3) := by decide +kernel
theorem dX11_whatIs_108 : decode cX11_whatIs 108 = .ok (.iload_n 1, 1) := by decide +kernel
theorem dX11_whatIs_109 : decode cX11_whatIs 109 = .ok (.aaload, 1) := by decide +kernel
theorem dX11_whatIs_110 : decode cX11_whatIs 110 = .ok (.iload_n 2, 1) := by decide +kernel
theorem dX11_whatIs_111 : decode cX11_whatIs 111 = .ok (.invokevirtual 198, 3) := by decide +kernel
theorem dX11_whatIs_114 : decode cX11_whatIs 114 = .ok (.ifCond .eq 12, 3) := by decide +kernel
theorem dX11_whatIs_117 : decode cX11_whatIs 117 = .ok (.iload 6, 2) := by decide +kernel
theorem dX11_whatIs_119 : decode cX11_whatIs 119 = .ok (.iconst 1, 1) := by decide +kernel
theorem dX11_whatIs_120 : decode cX11_whatIs 120 = .ok (.iload 7, 2) := by decide +kernel
theorem dX11_whatIs_122 : decode cX11_whatIs 122 = .ok (.ishl, 1) := by decide +kernel
theorem dX11_whatIs_123 : decode cX11_whatIs 123 = .ok (.ior, 1) := by decide +kernel
theorem dX11_whatIs_124 : decode cX11_whatIs 124 = .ok (.istore 6, 2) := by decide +kernel
theorem dX11_whatIs_126 : decode cX11_whatIs 126 = .ok (.iinc 7 1, 3) := by decide +kernel
theorem dX11_whatIs_129 : decode cX11_whatIs 129 = .ok (.goto (-73), 3) := by decide +kernel
theorem dX11_whatIs_132 : decode cX11_whatIs 132 = .ok (.iload 6, 2) := by decide +kernel
theorem dX11_whatIs_134 : decode cX11_whatIs 134 = .ok (.ireturn, 1) := by decide +kernel
set_option maxRecDepth 20000 in
theorem ggX11_whichSea_X11_refusalOfRow : GoodIn wsX11_whichSea wsX11_refusalOfRow := goodIn_r _ [9, 10, 11, 12, 8, 13, 4, 14, 15, 16, 17, 18, 19, 20, 197, 198, 199, 200, 201, 202, 203, 214, 215, 216, 217, 218, 219] (by decide +kernel) (by decide +kernel)
set_option maxRecDepth 20000 in
theorem gX11_whichSea_X11_refusalOfRow : GoodIn wsX11_whichSea (wsV RX11 36 RX11 yX11_refusalOfRow wsX11_refusalOfRow) := goodIn_app (goodIn_of _ (by decide +kernel)) ggX11_whichSea_X11_refusalOfRow
set_option maxRecDepth 20000 in
theorem ggX11_whichSea_X4_become : GoodIn wsX11_whichSea wsX4_become := goodIn_r _ [25, 26, 27, 28, 29, 30, 31, 32, 33, 34, 35, 36, 37, 38, 204, 205, 206, 207, 208, 209, 210, 211, 212, 213] (by decide +kernel) (by decide +kernel)
set_option maxRecDepth 20000 in
theorem gX11_whichSea_X4_become : GoodIn wsX11_whichSea (wsV RX11 50 RX4 yX4_become wsX4_become) := goodIn_app (goodIn_of _ (by decide +kernel)) ggX11_whichSea_X4_become
set_option maxRecDepth 20000 in
theorem ggX11_whichSea_X11_tellsAllStores : GoodIn wsX11_whichSea wsX11_tellsAllStores := goodIn_r _ [42, 43, 44, 1, 45, 46, 47, 48, 49, 50, 51, 52, 53, 54, 55, 56, 57, 58, 59, 60, 24, 61, 34, 32, 62, 8, 63, 64, 65, 66, 67, 38, 68, 69, 70, 71, 72, 73, 74, 75, 76, 77, 78, 35, 79, 80, 81, 82, 83, 26, 31, 37, 84, 85, 86, 87, 88, 89, 90, 91, 92, 93, 94, 95, 96, 97, 98, 99, 100, 101, 102, 103, 104, 105, 106, 107, 108, 109, 110, 111, 112, 113, 114, 115, 116, 117, 118, 119, 120, 121, 122, 123, 124, 125, 126, 127, 128, 36, 129, 130, 131, 132, 133, 134, 135, 136, 137, 138, 139, 140, 141, 142, 143, 144, 145, 146, 147, 148, 149, 150, 151, 152, 153, 154, 155, 156, 157, 158, 159, 160, 161, 162, 163, 164, 165, 166, 167, 168, 169, 170, 171, 172, 173, 174, 175, 176, 177, 178, 179, 180, 181, 182, 183, 184, 185, 186, 187, 188, 189, 190, 191, 192, 33, 193, 194, 195, 196, 214, 215, 216, 217, 218, 219, 197, 198, 199, 200, 201, 202, 203, 204, 205, 206, 207, 208, 209, 210, 211, 212, 213] (by decide +kernel) (by decide +kernel)
set_option maxRecDepth 20000 in
theorem gX11_whichSea_X11_tellsAllStores : GoodIn wsX11_whichSea (wsV RX11 202 RX11 yX11_tellsAllStores wsX11_tellsAllStores) := goodIn_app (goodIn_of _ (by decide +kernel)) ggX11_whichSea_X11_tellsAllStores
theorem dX11_whichSea_0 : decode cX11_whichSea 0 = .ok (.aload_n 0, 1) := by decide +kernel
theorem dX11_whichSea_1 : decode cX11_whichSea 1 = .ok (.iload_n 1, 1) := by decide +kernel
theorem dX11_whichSea_2 : decode cX11_whichSea 2 = .ok (.invokevirtual 36, 3) := by decide +kernel
theorem dX11_whichSea_5 : decode cX11_whichSea 5 = .ok (.istore_n 2, 1) := by decide +kernel
theorem dX11_whichSea_6 : decode cX11_whichSea 6 = .ok (.iload_n 2, 1) := by decide +kernel
theorem dX11_whichSea_7 : decode cX11_whichSea 7 = .ok (.ifCond .eq 5, 3) := by decide +kernel
theorem dX11_whichSea_10 : decode cX11_whichSea 10 = .ok (.iload_n 2, 1) := by decide +kernel
theorem dX11_whichSea_11 : decode cX11_whichSea 11 = .ok (.ireturn, 1) := by decide +kernel
theorem dX11_whichSea_12 : decode cX11_whichSea 12 = .ok (.iconst 0, 1) := by decide +kernel
theorem dX11_whichSea_13 : decode cX11_whichSea 13 = .ok (.istore_n 3, 1) := by decide +kernel
theorem dX11_whichSea_14 : decode cX11_whichSea 14 = .ok (.iconst 0, 1) := by decide +kernel
theorem dX11_whichSea_15 : decode cX11_whichSea 15 = .ok (.istore 4, 2) := by decide +kernel
theorem dX11_whichSea_17 : decode cX11_whichSea 17 = .ok (.iload 4, 2) := by decide +kernel
theorem dX11_whichSea_19 : decode cX11_whichSea 19 = .ok (.bipush 9, 2) := by decide +kernel
theorem dX11_whichSea_21 : decode cX11_whichSea 21 = .ok (.if_icmp .gt 49, 3) := by decide +kernel
theorem dX11_whichSea_24 : decode cX11_whichSea 24 = .ok (.aload_n 0, 1) := by decide +kernel
theorem dX11_whichSea_25 : decode cX11_whichSea 25 = .ok (.getfield 19, 3) := by decide +kernel
theorem dX11_whichSea_28 : decode cX11_whichSea 28 = .ok (.aload_n 0, 1) := by decide +kernel
theorem dX11_whichSea_29 : decode cX11_whichSea 29 = .ok (.getfield 10, 3) := by decide +kernel
theorem dX11_whichSea_32 : decode cX11_whichSea 32 = .ok (.invokevirtual 50, 3) := by decide +kernel
theorem dX11_whichSea_35 : decode cX11_whichSea 35 = .ok (.aload_n 0, 1) := by decide +kernel
theorem dX11_whichSea_36 : decode cX11_whichSea 36 = .ok (.getfield 19, 3) := by decide +kernel
theorem dX11_whichSea_39 : decode cX11_whichSea 39 = .ok (.iload 4, 2) := by decide +kernel
theorem dX11_whichSea_41 : decode cX11_whichSea 41 = .ok (.putfield 111, 3) := by decide +kernel
theorem dX11_whichSea_44 : decode cX11_whichSea 44 = .ok (.aload_n 0, 1) := by decide +kernel
theorem dX11_whichSea_45 : decode cX11_whichSea 45 = .ok (.aload_n 0, 1) := by decide +kernel
theorem dX11_whichSea_46 : decode cX11_whichSea 46 = .ok (.getfield 24, 3) := by decide +kernel
theorem dX11_whichSea_49 : decode cX11_whichSea 49 = .ok (.iload_n 1, 1) := by decide +kernel
theorem dX11_whichSea_50 : decode cX11_whichSea 50 = .ok (.aaload, 1) := by decide +kernel
theorem dX11_whichSea_51 : decode cX11_whichSea 51 = .ok (.invokevirtual 202, 3) := by decide +kernel
theorem dX11_whichSea_54 : decode cX11_whichSea 54 = .ok (.ifCond .eq 10, 3) := by decide +kernel
theorem dX11_whichSea_57 : decode cX11_whichSea 57 = .ok (.iload_n 3, 1) := by decide +kernel
theorem dX11_whichSea_58 : decode cX11_whichSea 58 = .ok (.iconst 1, 1) := by decide +kernel
theorem dX11_whichSea_59 : decode cX11_whichSea 59 = .ok (.iload 4, 2) := by decide +kernel
theorem dX11_whichSea_61 : decode cX11_whichSea 61 = .ok (.ishl, 1) := by decide +kernel
theorem dX11_whichSea_62 : decode cX11_whichSea 62 = .ok (.ior, 1) := by decide +kernel
theorem dX11_whichSea_63 : decode cX11_whichSea 63 = .ok (.istore_n 3, 1) := by decide +kernel
theorem dX11_whichSea_64 : decode cX11_whichSea 64 = .ok (.iinc 4 1, 3) := by decide +kernel
theorem dX11_whichSea_67 : decode cX11_whichSea 67 = .ok (.goto (-50), 3) := by decide +kernel
theorem dX11_whichSea_70 : decode cX11_whichSea 70 = .ok (.iload_n 3, 1) := by decide +kernel
theorem dX11_whichSea_71 : decode cX11_whichSea 71 = .ok (.ireturn, 1) := by decide +kernel
set_option maxRecDepth 20000 in
theorem ggX11_two_X11_areTwo : GoodIn wsX11_two wsX11_areTwo := goodIn_r _ [8, 1, 9, 10, 11, 12, 13, 14, 196, 197, 198, 199, 200, 201, 202, 203, 204, 205, 206, 207, 208, 209, 210, 211, 212] (by decide +kernel) (by decide +kernel)
set_option maxRecDepth 20000 in
theorem gX11_two_X11_areTwo : GoodIn wsX11_two (wsV RX11 117 RX11 yX11_areTwo wsX11_areTwo) := goodIn_app (goodIn_of _ (by decide +kernel)) ggX11_two_X11_areTwo
set_option maxRecDepth 20000 in
theorem ggX11_two_X11_within : GoodIn wsX11_two wsX11_within := goodIn_r _ [17] (by decide +kernel) (by decide +kernel)
set_option maxRecDepth 20000 in
theorem gX11_two_X11_within : GoodIn wsX11_two (va_wsS RX11 94 yX11_within wsX11_within) := goodIn_app (goodIn_of _ (by decide +kernel)) ggX11_two_X11_within
set_option maxRecDepth 20000 in
theorem ggX11_two_X4_isThere : GoodIn wsX11_two wsX4_isThere := goodIn_r _ [21, 22, 23, 7, 24, 203, 204, 205, 206, 207, 208, 209, 210, 211, 212] (by decide +kernel) (by decide +kernel)
set_option maxRecDepth 20000 in
theorem gX11_two_X4_isThere : GoodIn wsX11_two (wsV RX11 81 RX4 yX4_isThere wsX4_isThere) := goodIn_app (goodIn_of _ (by decide +kernel)) ggX11_two_X4_isThere
set_option maxRecDepth 20000 in
theorem ggX11_two_X11_tryGiving : GoodIn wsX11_two wsX11_tryGiving := goodIn_r _ [28, 29, 1, 30, 2, 3, 31, 32, 33, 12, 34, 35, 36, 37, 38, 39, 40, 41, 42, 14, 22, 43, 44, 45, 46, 47, 48, 49, 50, 51, 52, 53, 54, 55, 56, 57, 58, 59, 60, 61, 19, 20, 21, 23, 7, 24, 62, 63, 64, 65, 66, 67, 68, 69, 70, 71, 72, 73, 74, 75, 76, 77, 78, 79, 80, 81, 82, 83, 84, 85, 86, 87, 88, 89, 90, 91, 92, 93, 94, 95, 96, 97, 98, 99, 100, 101, 102, 103, 104, 105, 106, 107, 108, 109, 110, 111, 112, 113, 114, 115, 116, 117, 118, 119, 120, 121, 122, 123, 124, 125, 126, 127, 128, 129, 130, 131, 132, 133, 134, 135, 136, 137, 138, 139, 140, 141, 142, 143, 144, 145, 146, 147, 148, 149, 150, 151, 152, 153, 154, 155, 156, 157, 158, 159, 160, 161, 162, 163, 164, 165, 166, 167, 168, 169, 170, 171, 172, 173, 174, 175, 176, 177, 178, 179, 180, 181, 182, 183, 184, 185, 186, 187, 188, 189, 190, 191, 192, 193, 194, 195, 18, 196, 197, 198, 199, 200, 201, 202, 203, 204, 205, 206, 207, 208, 209, 210, 211, 212] (by decide +kernel) (by decide +kernel)
set_option maxRecDepth 20000 in
theorem gX11_two_X11_tryGiving : GoodIn wsX11_two (wsV RX11 206 RX11 yX11_tryGiving wsX11_tryGiving) := goodIn_app (goodIn_of _ (by decide +kernel)) ggX11_two_X11_tryGiving
theorem dX11_two_0 : decode cX11_two 0 = .ok (.aload_n 0, 1) := by decide +kernel
theorem dX11_two_1 : decode cX11_two 1 = .ok (.iload_n 1, 1) := by decide +kernel
theorem dX11_two_2 : decode cX11_two 2 = .ok (.iload_n 2, 1) := by decide +kernel
theorem dX11_two_3 : decode cX11_two 3 = .ok (.invokevirtual 117, 3) := by decide +kernel
theorem dX11_two_6 : decode cX11_two 6 = .ok (.ifCond .eq 13, 3) := by decide +kernel
theorem dX11_two_9 : decode cX11_two 9 = .ok (.iload_n 3, 1) := by decide +kernel
theorem dX11_two_10 : decode cX11_two 10 = .ok (.iconst 1, 1) := by decide +kernel
theorem dX11_two_11 : decode cX11_two 11 = .ok (.bipush 60, 2) := by decide +kernel
theorem dX11_two_13 : decode cX11_two 13 = .ok (.invokestatic 94, 3) := by decide +kernel
theorem dX11_two_16 : decode cX11_two 16 = .ok (.ifCond .ne 5, 3) := by decide +kernel
theorem dX11_two_19 : decode cX11_two 19 = .ok (.iconst (-1), 1) := by decide +kernel
theorem dX11_two_20 : decode cX11_two 20 = .ok (.ireturn, 1) := by decide +kernel
theorem dX11_two_21 : decode cX11_two 21 = .ok (.aload_n 0, 1) := by decide +kernel
theorem dX11_two_22 : decode cX11_two 22 = .ok (.getfield 10, 3) := by decide +kernel
theorem dX11_two_25 : decode cX11_two 25 = .ok (.iload_n 1, 1) := by decide +kernel
theorem dX11_two_26 : decode cX11_two 26 = .ok (.invokevirtual 81, 3) := by decide +kernel
theorem dX11_two_29 : decode cX11_two 29 = .ok (.ifCond .eq 14, 3) := by decide +kernel
theorem dX11_two_32 : decode cX11_two 32 = .ok (.aload_n 0, 1) := by decide +kernel
theorem dX11_two_33 : decode cX11_two 33 = .ok (.getfield 10, 3) := by decide +kernel
theorem dX11_two_36 : decode cX11_two 36 = .ok (.iload_n 2, 1) := by decide +kernel
theorem dX11_two_37 : decode cX11_two 37 = .ok (.invokevirtual 81, 3) := by decide +kernel
theorem dX11_two_40 : decode cX11_two 40 = .ok (.ifCond .ne 6, 3) := by decide +kernel
theorem dX11_two_43 : decode cX11_two 43 = .ok (.bipush (-3), 2) := by decide +kernel
theorem dX11_two_45 : decode cX11_two 45 = .ok (.ireturn, 1) := by decide +kernel
theorem dX11_two_46 : decode cX11_two 46 = .ok (.iconst 0, 1) := by decide +kernel
theorem dX11_two_47 : decode cX11_two 47 = .ok (.istore 4, 2) := by decide +kernel
theorem dX11_two_49 : decode cX11_two 49 = .ok (.iload 4, 2) := by decide +kernel
theorem dX11_two_51 : decode cX11_two 51 = .ok (.iconst 4, 1) := by decide +kernel
theorem dX11_two_52 : decode cX11_two 52 = .ok (.if_icmp .ge 18, 3) := by decide +kernel
theorem dX11_two_55 : decode cX11_two 55 = .ok (.aload_n 0, 1) := by decide +kernel
theorem dX11_two_56 : decode cX11_two 56 = .ok (.iload_n 1, 1) := by decide +kernel
theorem dX11_two_57 : decode cX11_two 57 = .ok (.iload_n 2, 1) := by decide +kernel
theorem dX11_two_58 : decode cX11_two 58 = .ok (.iload 4, 2) := by decide +kernel
theorem dX11_two_60 : decode cX11_two 60 = .ok (.iload_n 3, 1) := by decide +kernel
theorem dX11_two_61 : decode cX11_two 61 = .ok (.invokevirtual 206, 3) := by decide +kernel
theorem dX11_two_64 : decode cX11_two 64 = .ok (.iinc 4 1, 3) := by decide +kernel
theorem dX11_two_67 : decode cX11_two 67 = .ok (.goto (-18), 3) := by decide +kernel
theorem dX11_two_70 : decode cX11_two 70 = .ok (.iconst 0, 1) := by decide +kernel
theorem dX11_two_71 : decode cX11_two 71 = .ok (.istore 4, 2) := by decide +kernel
theorem dX11_two_73 : decode cX11_two 73 = .ok (.iload 4, 2) := by decide +kernel
theorem dX11_two_75 : decode cX11_two 75 = .ok (.iconst 4, 1) := by decide +kernel
theorem dX11_two_76 : decode cX11_two 76 = .ok (.if_icmp .ge 60, 3) := by decide +kernel
theorem dX11_two_79 : decode cX11_two 79 = .ok (.aload_n 0, 1) := by decide +kernel
theorem dX11_two_80 : decode cX11_two 80 = .ok (.getfield 29, 3) := by decide +kernel
theorem dX11_two_83 : decode cX11_two 83 = .ok (.iload 4, 2) := by decide +kernel
theorem dX11_two_85 : decode cX11_two 85 = .ok (.iaload, 1) := by decide +kernel
theorem dX11_two_86 : decode cX11_two 86 = .ok (.aload_n 0, 1) := by decide +kernel
theorem dX11_two_87 : decode cX11_two 87 = .ok (.getfield 29, 3) := by decide +kernel
theorem dX11_two_90 : decode cX11_two 90 = .ok (.iload 4, 2) := by decide +kernel
theorem dX11_two_92 : decode cX11_two 92 = .ok (.iconst 2, 1) := by decide +kernel
theorem dX11_two_93 : decode cX11_two 93 = .ok (.ixor, 1) := by decide +kernel
theorem dX11_two_94 : decode cX11_two 94 = .ok (.iaload, 1) := by decide +kernel
theorem dX11_two_95 : decode cX11_two 95 = .ok (.if_icmp .lt 35, 3) := by decide +kernel
theorem dX11_two_98 : decode cX11_two 98 = .ok (.aload_n 0, 1) := by decide +kernel
theorem dX11_two_99 : decode cX11_two 99 = .ok (.getfield 33, 3) := by decide +kernel
theorem dX11_two_102 : decode cX11_two 102 = .ok (.iload 4, 2) := by decide +kernel
theorem dX11_two_104 : decode cX11_two 104 = .ok (.iaload, 1) := by decide +kernel
theorem dX11_two_105 : decode cX11_two 105 = .ok (.aload_n 0, 1) := by decide +kernel
theorem dX11_two_106 : decode cX11_two 106 = .ok (.getfield 33, 3) := by decide +kernel
theorem dX11_two_109 : decode cX11_two 109 = .ok (.iload 4, 2) := by decide +kernel
theorem dX11_two_111 : decode cX11_two 111 = .ok (.iconst 1, 1) := by decide +kernel
theorem dX11_two_112 : decode cX11_two 112 = .ok (.ixor, 1) := by decide +kernel
theorem dX11_two_113 : decode cX11_two 113 = .ok (.iaload, 1) := by decide +kernel
theorem dX11_two_114 : decode cX11_two 114 = .ok (.if_icmp .lt 16, 3) := by decide +kernel
theorem dX11_two_117 : decode cX11_two 117 = .ok (.bipush 10, 2) := by decide +kernel
theorem dX11_two_119 : decode cX11_two 119 = .ok (.iload 4, 2) := by decide +kernel
theorem dX11_two_121 : decode cX11_two 121 = .ok (.iconst 1, 1) := by decide +kernel
theorem dX11_two_122 : decode cX11_two 122 = .ok (.ishr, 1) := by decide +kernel
theorem dX11_two_123 : decode cX11_two 123 = .ok (.imul, 1) := by decide +kernel
theorem dX11_two_124 : decode cX11_two 124 = .ok (.iload 4, 2) := by decide +kernel
theorem dX11_two_126 : decode cX11_two 126 = .ok (.iconst 1, 1) := by decide +kernel
theorem dX11_two_127 : decode cX11_two 127 = .ok (.iand, 1) := by decide +kernel
theorem dX11_two_128 : decode cX11_two 128 = .ok (.iadd, 1) := by decide +kernel
theorem dX11_two_129 : decode cX11_two 129 = .ok (.ireturn, 1) := by decide +kernel
theorem dX11_two_130 : decode cX11_two 130 = .ok (.iinc 4 1, 3) := by decide +kernel
theorem dX11_two_133 : decode cX11_two 133 = .ok (.goto (-60), 3) := by decide +kernel
theorem dX11_two_136 : decode cX11_two 136 = .ok (.bipush (-4), 2) := by decide +kernel
theorem dX11_two_138 : decode cX11_two 138 = .ok (.ireturn, 1) := by decide +kernel
set_option maxRecDepth 20000 in
theorem ggX11_storms_X4_knows : GoodIn wsX11_storms wsX4_knows := goodIn_r _ [9, 10, 192, 193, 194, 195, 196, 197, 198, 199, 200, 201] (by decide +kernel) (by decide +kernel)
set_option maxRecDepth 20000 in
theorem gX11_storms_X4_knows : GoodIn wsX11_storms (wsV RX11 65 RX4 yX4_knows wsX4_knows) := goodIn_app (goodIn_of _ (by decide +kernel)) ggX11_storms_X4_knows
set_option maxRecDepth 20000 in
theorem ggX11_storms_X11_within : GoodIn wsX11_storms wsX11_within := goodIn_r _ [14] (by decide +kernel) (by decide +kernel)
set_option maxRecDepth 20000 in
theorem gX11_storms_X11_within : GoodIn wsX11_storms (va_wsS RX11 94 yX11_within wsX11_within) := goodIn_app (goodIn_of _ (by decide +kernel)) ggX11_storms_X11_within
set_option maxRecDepth 20000 in
theorem ggX11_storms_X11_weather : GoodIn wsX11_storms wsX11_weather := goodIn_r _ [18, 3, 1, 19, 20, 21, 22, 8, 23, 24, 25, 26, 27, 28, 29, 30, 31, 10, 32, 33, 34, 35, 36, 37, 13, 38, 39, 40, 41, 42, 43, 44, 45, 46, 47, 48, 49, 50, 51, 52, 53, 54, 55, 56, 57, 58, 59, 60, 61, 62, 63, 64, 65, 66, 67, 68, 69, 70, 71, 72, 73, 74, 75, 76, 77, 78, 79, 80, 81, 82, 83, 84, 85, 86, 87, 88, 89, 90, 91, 92, 93, 94, 95, 96, 97, 98, 99, 100, 101, 102, 103, 104, 105, 106, 107, 108, 109, 110, 111, 112, 113, 114, 115, 116, 117, 118, 119, 120, 121, 122, 123, 124, 125, 126, 127, 128, 129, 130, 131, 132, 133, 134, 135, 136, 137, 138, 139, 140, 141, 142, 143, 144, 145, 146, 147, 148, 149, 150, 151, 152, 153, 154, 155, 156, 157, 158, 159, 160, 161, 162, 163, 164, 165, 166, 167, 168, 169, 170, 171, 185, 186, 187, 188, 189, 190, 191, 192, 193, 194, 195, 196, 197, 198, 199, 200, 201] (by decide +kernel) (by decide +kernel)
set_option maxRecDepth 20000 in
theorem gX11_storms_X11_weather : GoodIn wsX11_storms (wsV RX11 212 RX11 yX11_weather wsX11_weather) := goodIn_app (goodIn_of _ (by decide +kernel)) ggX11_storms_X11_weather
set_option maxRecDepth 20000 in
theorem ggX11_storms_J6_bitCount_0f7a4 : GoodIn wsX11_storms wsJ6_bitCount_0f7a4 := goodIn_r _ [175, 176, 177, 178] (by decide +kernel) (by decide +kernel)
set_option maxRecDepth 20000 in
theorem gX11_storms_J6_bitCount_0f7a4 : GoodIn wsX11_storms (va_wsS RX11 195 yJ6_bitCount_0f7a4 wsJ6_bitCount_0f7a4) := goodIn_app (goodIn_of _ (by decide +kernel)) ggX11_storms_J6_bitCount_0f7a4
set_option maxRecDepth 20000 in
theorem ggX11_storms_X11_power : GoodIn wsX11_storms wsX11_power := goodIn_r _ [181] (by decide +kernel) (by decide +kernel)
set_option maxRecDepth 20000 in
theorem gX11_storms_X11_power : GoodIn wsX11_storms (va_wsS RX11 216 yX11_power wsX11_power) := goodIn_app (goodIn_of _ (by decide +kernel)) ggX11_storms_X11_power
set_option maxRecDepth 20000 in
theorem ggX11_storms_X11_inLeastTerms : GoodIn wsX11_storms wsX11_inLeastTerms := goodIn_r _ [184] (by decide +kernel) (by decide +kernel)
set_option maxRecDepth 20000 in
theorem gX11_storms_X11_inLeastTerms : GoodIn wsX11_storms (va_wsS RX11 220 yX11_inLeastTerms wsX11_inLeastTerms) := goodIn_app (goodIn_of _ (by decide +kernel)) ggX11_storms_X11_inLeastTerms
theorem dX11_storms_0 : decode cX11_storms 0 = .ok (.aload_n 0, 1) := by decide +kernel
theorem dX11_storms_1 : decode cX11_storms 1 = .ok (.getfield 10, 3) := by decide +kernel
theorem dX11_storms_4 : decode cX11_storms 4 = .ok (.iload_n 1, 1) := by decide +kernel
theorem dX11_storms_5 : decode cX11_storms 5 = .ok (.invokevirtual 65, 3) := by decide +kernel
theorem dX11_storms_8 : decode cX11_storms 8 = .ok (.ifCond .eq 48, 3) := by decide +kernel
theorem dX11_storms_11 : decode cX11_storms 11 = .ok (.iload_n 2, 1) := by decide +kernel
theorem dX11_storms_12 : decode cX11_storms 12 = .ok (.iconst 0, 1) := by decide +kernel
theorem dX11_storms_13 : decode cX11_storms 13 = .ok (.bipush 7, 2) := by decide +kernel
theorem dX11_storms_15 : decode cX11_storms 15 = .ok (.invokestatic 94, 3) := by decide +kernel
theorem dX11_storms_18 : decode cX11_storms 18 = .ok (.ifCond .eq 38, 3) := by decide +kernel
theorem dX11_storms_21 : decode cX11_storms 21 = .ok (.iload_n 3, 1) := by decide +kernel
theorem dX11_storms_22 : decode cX11_storms 22 = .ok (.iconst 2, 1) := by decide +kernel
theorem dX11_storms_23 : decode cX11_storms 23 = .ok (.bipush 20, 2) := by decide +kernel
theorem dX11_storms_25 : decode cX11_storms 25 = .ok (.invokestatic 94, 3) := by decide +kernel
theorem dX11_storms_28 : decode cX11_storms 28 = .ok (.ifCond .eq 28, 3) := by decide +kernel
theorem dX11_storms_31 : decode cX11_storms 31 = .ok (.iload 4, 2) := by decide +kernel
theorem dX11_storms_33 : decode cX11_storms 33 = .ok (.iconst 0, 1) := by decide +kernel
theorem dX11_storms_34 : decode cX11_storms 34 = .ok (.bipush 99, 2) := by decide +kernel
theorem dX11_storms_36 : decode cX11_storms 36 = .ok (.invokestatic 94, 3) := by decide +kernel
theorem dX11_storms_39 : decode cX11_storms 39 = .ok (.ifCond .eq 17, 3) := by decide +kernel
theorem dX11_storms_42 : decode cX11_storms 42 = .ok (.iload 5, 2) := by decide +kernel
theorem dX11_storms_44 : decode cX11_storms 44 = .ok (.iconst 0, 1) := by decide +kernel
theorem dX11_storms_45 : decode cX11_storms 45 = .ok (.iconst 1, 1) := by decide +kernel
theorem dX11_storms_46 : decode cX11_storms 46 = .ok (.invokestatic 94, 3) := by decide +kernel
theorem dX11_storms_49 : decode cX11_storms 49 = .ok (.ifCond .eq 7, 3) := by decide +kernel
theorem dX11_storms_52 : decode cX11_storms 52 = .ok (.iconst 1, 1) := by decide +kernel
theorem dX11_storms_53 : decode cX11_storms 53 = .ok (.goto 4, 3) := by decide +kernel
theorem dX11_storms_56 : decode cX11_storms 56 = .ok (.iconst 0, 1) := by decide +kernel
theorem dX11_storms_57 : decode cX11_storms 57 = .ok (.istore 6, 2) := by decide +kernel
theorem dX11_storms_59 : decode cX11_storms 59 = .ok (.iload 6, 2) := by decide +kernel
theorem dX11_storms_61 : decode cX11_storms 61 = .ok (.ifCond .ne 7, 3) := by decide +kernel
theorem dX11_storms_64 : decode cX11_storms 64 = .ok (.ldc2_w 210, 3) := by decide +kernel
theorem dX11_storms_67 : decode cX11_storms 67 = .ok (.lreturn, 1) := by decide +kernel
theorem dX11_storms_68 : decode cX11_storms 68 = .ok (.lconst 0, 1) := by decide +kernel
theorem dX11_storms_69 : decode cX11_storms 69 = .ok (.lstore 7, 2) := by decide +kernel
theorem dX11_storms_71 : decode cX11_storms 71 = .ok (.iconst 0, 1) := by decide +kernel
theorem dX11_storms_72 : decode cX11_storms 72 = .ok (.istore 9, 2) := by decide +kernel
theorem dX11_storms_74 : decode cX11_storms 74 = .ok (.iload 9, 2) := by decide +kernel
theorem dX11_storms_76 : decode cX11_storms 76 = .ok (.iconst 1, 1) := by decide +kernel
theorem dX11_storms_77 : decode cX11_storms 77 = .ok (.iload_n 2, 1) := by decide +kernel
theorem dX11_storms_78 : decode cX11_storms 78 = .ok (.ishl, 1) := by decide +kernel
theorem dX11_storms_79 : decode cX11_storms 79 = .ok (.if_icmp .ge 48, 3) := by decide +kernel
theorem dX11_storms_82 : decode cX11_storms 82 = .ok (.aload_n 0, 1) := by decide +kernel
theorem dX11_storms_83 : decode cX11_storms 83 = .ok (.iload_n 2, 1) := by decide +kernel
theorem dX11_storms_84 : decode cX11_storms 84 = .ok (.iload 9, 2) := by decide +kernel
theorem dX11_storms_86 : decode cX11_storms 86 = .ok (.invokevirtual 212, 3) := by decide +kernel
theorem dX11_storms_89 : decode cX11_storms 89 = .ok (.aload_n 0, 1) := by decide +kernel
theorem dX11_storms_90 : decode cX11_storms 90 = .ok (.getfield 19, 3) := by decide +kernel
theorem dX11_storms_93 : decode cX11_storms 93 = .ok (.getfield 75, 3) := by decide +kernel
theorem dX11_storms_96 : decode cX11_storms 96 = .ok (.iload_n 1, 1) := by decide +kernel
theorem dX11_storms_97 : decode cX11_storms 97 = .ok (.iaload, 1) := by decide +kernel
theorem dX11_storms_98 : decode cX11_storms 98 = .ok (.iload 4, 2) := by decide +kernel
theorem dX11_storms_100 : decode cX11_storms 100 = .ok (.if_icmp .lt 21, 3) := by decide +kernel
theorem dX11_storms_103 : decode cX11_storms 103 = .ok (.lload 7, 2) := by decide +kernel
theorem dX11_storms_105 : decode cX11_storms 105 = .ok (.iload_n 3, 1) := by decide +kernel
theorem dX11_storms_106 : decode cX11_storms 106 = .ok (.iconst 1, 1) := by decide +kernel
theorem dX11_storms_107 : decode cX11_storms 107 = .ok (.isub, 1) := by decide +kernel
theorem dX11_storms_108 : decode cX11_storms 108 = .ok (.iload_n 2, 1) := by decide +kernel
theorem dX11_storms_109 : decode cX11_storms 109 = .ok (.iload 9, 2) := by decide +kernel
theorem dX11_storms_111 : decode cX11_storms 111 = .ok (.invokestatic 195, 3) := by decide +kernel
theorem dX11_storms_114 : decode cX11_storms 114 = .ok (.isub, 1) := by decide +kernel
theorem dX11_storms_115 : decode cX11_storms 115 = .ok (.invokestatic 216, 3) := by decide +kernel
theorem dX11_storms_118 : decode cX11_storms 118 = .ok (.ladd, 1) := by decide +kernel
theorem dX11_storms_119 : decode cX11_storms 119 = .ok (.lstore 7, 2) := by decide +kernel
theorem dX11_storms_121 : decode cX11_storms 121 = .ok (.iinc 9 1, 3) := by decide +kernel
theorem dX11_storms_124 : decode cX11_storms 124 = .ok (.goto (-50), 3) := by decide +kernel
theorem dX11_storms_127 : decode cX11_storms 127 = .ok (.lload 7, 2) := by decide +kernel
theorem dX11_storms_129 : decode cX11_storms 129 = .ok (.iload_n 3, 1) := by decide +kernel
theorem dX11_storms_130 : decode cX11_storms 130 = .ok (.iload_n 2, 1) := by decide +kernel
theorem dX11_storms_131 : decode cX11_storms 131 = .ok (.invokestatic 216, 3) := by decide +kernel
theorem dX11_storms_134 : decode cX11_storms 134 = .ok (.iload 5, 2) := by decide +kernel
theorem dX11_storms_136 : decode cX11_storms 136 = .ok (.invokestatic 220, 3) := by decide +kernel
theorem dX11_storms_139 : decode cX11_storms 139 = .ok (.lreturn, 1) := by decide +kernel
set_option maxRecDepth 20000 in
theorem ggX11_share_X4_knows : GoodIn wsX11_share wsX4_knows := goodIn_r _ [9, 10, 37, 38, 39, 40, 41, 42, 43, 44, 45, 46] (by decide +kernel) (by decide +kernel)
set_option maxRecDepth 20000 in
theorem gX11_share_X4_knows : GoodIn wsX11_share (wsV RX11 65 RX4 yX4_knows wsX4_knows) := goodIn_app (goodIn_of _ (by decide +kernel)) ggX11_share_X4_knows
set_option maxRecDepth 20000 in
theorem ggX11_share_X11_within : GoodIn wsX11_share wsX11_within := goodIn_r _ [14] (by decide +kernel) (by decide +kernel)
set_option maxRecDepth 20000 in
theorem gX11_share_X11_within : GoodIn wsX11_share (va_wsS RX11 94 yX11_within wsX11_within) := goodIn_app (goodIn_of _ (by decide +kernel)) ggX11_share_X11_within
set_option maxRecDepth 20000 in
theorem ggX11_share_X4_storeOfSet : GoodIn wsX11_share wsX4_storeOfSet := goodIn_r _ [18, 10, 19, 20, 13, 21, 37, 38, 39, 40, 41, 42, 43, 44, 45, 46] (by decide +kernel) (by decide +kernel)
set_option maxRecDepth 20000 in
theorem gX11_share_X4_storeOfSet : GoodIn wsX11_share (wsV RX11 180 RX4 yX4_storeOfSet wsX4_storeOfSet) := goodIn_app (goodIn_of _ (by decide +kernel)) ggX11_share_X4_storeOfSet
set_option maxRecDepth 20000 in
theorem ggX11_share_X4_isThere : GoodIn wsX11_share wsX4_isThere := goodIn_r _ [25, 26, 20, 13, 21, 37, 38, 39, 40, 41, 42, 43, 44, 45, 46] (by decide +kernel) (by decide +kernel)
set_option maxRecDepth 20000 in
theorem gX11_share_X4_isThere : GoodIn wsX11_share (wsV RX11 81 RX4 yX4_isThere wsX4_isThere) := goodIn_app (goodIn_of _ (by decide +kernel)) ggX11_share_X4_isThere
set_option maxRecDepth 20000 in
theorem ggX11_share_X11_inLeastTerms : GoodIn wsX11_share wsX11_inLeastTerms := goodIn_r _ [29] (by decide +kernel) (by decide +kernel)
set_option maxRecDepth 20000 in
theorem gX11_share_X11_inLeastTerms : GoodIn wsX11_share (va_wsS RX11 220 yX11_inLeastTerms wsX11_inLeastTerms) := goodIn_app (goodIn_of _ (by decide +kernel)) ggX11_share_X11_inLeastTerms
theorem dX11_share_0 : decode cX11_share 0 = .ok (.aload_n 0, 1) := by decide +kernel
theorem dX11_share_1 : decode cX11_share 1 = .ok (.getfield 10, 3) := by decide +kernel
theorem dX11_share_4 : decode cX11_share 4 = .ok (.iload_n 1, 1) := by decide +kernel
theorem dX11_share_5 : decode cX11_share 5 = .ok (.invokevirtual 65, 3) := by decide +kernel
theorem dX11_share_8 : decode cX11_share 8 = .ok (.ifCond .eq 12, 3) := by decide +kernel
theorem dX11_share_11 : decode cX11_share 11 = .ok (.iload_n 2, 1) := by decide +kernel
theorem dX11_share_12 : decode cX11_share 12 = .ok (.iconst 0, 1) := by decide +kernel
theorem dX11_share_13 : decode cX11_share 13 = .ok (.iconst 1, 1) := by decide +kernel
theorem dX11_share_14 : decode cX11_share 14 = .ok (.invokestatic 94, 3) := by decide +kernel
theorem dX11_share_17 : decode cX11_share 17 = .ok (.ifCond .ne 7, 3) := by decide +kernel
theorem dX11_share_20 : decode cX11_share 20 = .ok (.ldc2_w 210, 3) := by decide +kernel
theorem dX11_share_23 : decode cX11_share 23 = .ok (.lreturn, 1) := by decide +kernel
theorem dX11_share_24 : decode cX11_share 24 = .ok (.aload_n 0, 1) := by decide +kernel
theorem dX11_share_25 : decode cX11_share 25 = .ok (.getfield 10, 3) := by decide +kernel
theorem dX11_share_28 : decode cX11_share 28 = .ok (.aload_n 0, 1) := by decide +kernel
theorem dX11_share_29 : decode cX11_share 29 = .ok (.getfield 10, 3) := by decide +kernel
theorem dX11_share_32 : decode cX11_share 32 = .ok (.getfield 139, 3) := by decide +kernel
theorem dX11_share_35 : decode cX11_share 35 = .ok (.invokevirtual 180, 3) := by decide +kernel
theorem dX11_share_38 : decode cX11_share 38 = .ok (.istore_n 3, 1) := by decide +kernel
theorem dX11_share_39 : decode cX11_share 39 = .ok (.iload_n 3, 1) := by decide +kernel
theorem dX11_share_40 : decode cX11_share 40 = .ok (.ifCond .eq 14, 3) := by decide +kernel
theorem dX11_share_43 : decode cX11_share 43 = .ok (.aload_n 0, 1) := by decide +kernel
theorem dX11_share_44 : decode cX11_share 44 = .ok (.getfield 10, 3) := by decide +kernel
theorem dX11_share_47 : decode cX11_share 47 = .ok (.iload_n 1, 1) := by decide +kernel
theorem dX11_share_48 : decode cX11_share 48 = .ok (.invokevirtual 81, 3) := by decide +kernel
theorem dX11_share_51 : decode cX11_share 51 = .ok (.ifCond .ne 6, 3) := by decide +kernel
theorem dX11_share_54 : decode cX11_share 54 = .ok (.iload_n 2, 1) := by decide +kernel
theorem dX11_share_55 : decode cX11_share 55 = .ok (.i2l, 1) := by decide +kernel
theorem dX11_share_56 : decode cX11_share 56 = .ok (.lreturn, 1) := by decide +kernel
theorem dX11_share_57 : decode cX11_share 57 = .ok (.aload_n 0, 1) := by decide +kernel
theorem dX11_share_58 : decode cX11_share 58 = .ok (.getfield 10, 3) := by decide +kernel
theorem dX11_share_61 : decode cX11_share 61 = .ok (.getfield 75, 3) := by decide +kernel
theorem dX11_share_64 : decode cX11_share 64 = .ok (.iload_n 1, 1) := by decide +kernel
theorem dX11_share_65 : decode cX11_share 65 = .ok (.iaload, 1) := by decide +kernel
theorem dX11_share_66 : decode cX11_share 66 = .ok (.i2l, 1) := by decide +kernel
theorem dX11_share_67 : decode cX11_share 67 = .ok (.iload_n 3, 1) := by decide +kernel
theorem dX11_share_68 : decode cX11_share 68 = .ok (.i2l, 1) := by decide +kernel
theorem dX11_share_69 : decode cX11_share 69 = .ok (.iload_n 2, 1) := by decide +kernel
theorem dX11_share_70 : decode cX11_share 70 = .ok (.invokestatic 220, 3) := by decide +kernel
theorem dX11_share_73 : decode cX11_share 73 = .ok (.lreturn, 1) := by decide +kernel
set_option maxRecDepth 20000 in
theorem ggX11_tellsStoreOf_X7_isSkipped : GoodIn wsX11_tellsStoreOf wsX7_isSkipped := goodIn_r _ [9, 10, 11, 12, 13, 8, 14, 15, 16, 163, 164, 165, 166, 167, 168] (by decide +kernel) (by decide +kernel)
set_option maxRecDepth 20000 in
theorem gX11_tellsStoreOf_X7_isSkipped : GoodIn wsX11_tellsStoreOf (wsV RX11 224 RX7 yX7_isSkipped wsX7_isSkipped) := goodIn_app (goodIn_of _ (by decide +kernel)) ggX11_tellsStoreOf_X7_isSkipped
set_option maxRecDepth 20000 in
theorem ggX11_tellsStoreOf_X4_oneDay : GoodIn wsX11_tellsStoreOf wsX4_oneDay := goodIn_r _ [21, 22, 23, 24, 25, 26, 27, 28, 29, 30, 31, 32, 33, 34, 20, 35, 36, 37, 38, 39, 40, 41, 42, 43, 44, 45, 46, 47, 48, 49, 50, 51, 52, 53, 54, 55, 56, 57, 58, 59, 60, 61, 62, 63, 64, 65, 66, 67, 68, 69, 70, 71, 72, 73, 74, 75, 76, 77, 78, 79, 80, 81, 82, 83, 84, 85, 86, 87, 88, 89, 90, 91, 92, 93, 94, 95, 96, 97, 98, 99, 100, 101, 102, 103, 104, 105, 106, 107, 108, 109, 110, 111, 112, 113, 114, 115, 116, 117, 118, 119, 120, 121, 122, 123, 124, 125, 126, 127, 128, 129, 130, 131, 132, 133, 134, 135, 136, 137, 138, 139, 140, 141, 142, 143, 144, 145, 146, 147, 148, 149, 150, 151, 152, 153, 154, 155, 156, 157, 158, 159, 160, 161, 162, 176, 177, 178, 179, 180, 181, 182, 183, 184, 185] (by decide +kernel) (by decide +kernel)
set_option maxRecDepth 20000 in
theorem gX11_tellsStoreOf_X4_oneDay : GoodIn wsX11_tellsStoreOf (wsV RX11 154 RX4 yX4_oneDay wsX4_oneDay) := goodIn_app (goodIn_of _ (by decide +kernel)) ggX11_tellsStoreOf_X4_oneDay
theorem dX11_tellsStoreOf_0 : decode cX11_tellsStoreOf 0 = .ok (.iconst 0, 1) := by decide +kernel
theorem dX11_tellsStoreOf_1 : decode cX11_tellsStoreOf 1 = .ok (.istore_n 3, 1) := by decide +kernel
theorem dX11_tellsStoreOf_2 : decode cX11_tellsStoreOf 2 = .ok (.iload_n 3, 1) := by decide +kernel
theorem dX11_tellsStoreOf_3 : decode cX11_tellsStoreOf 3 = .ok (.aload_n 1, 1) := by decide +kernel
theorem dX11_tellsStoreOf_4 : decode cX11_tellsStoreOf 4 = .ok (.getfield 54, 3) := by decide +kernel
theorem dX11_tellsStoreOf_7 : decode cX11_tellsStoreOf 7 = .ok (.if_icmp .ge 45, 3) := by decide +kernel
theorem dX11_tellsStoreOf_10 : decode cX11_tellsStoreOf 10 = .ok (.aload_n 1, 1) := by decide +kernel
theorem dX11_tellsStoreOf_11 : decode cX11_tellsStoreOf 11 = .ok (.iload_n 3, 1) := by decide +kernel
theorem dX11_tellsStoreOf_12 : decode cX11_tellsStoreOf 12 = .ok (.invokevirtual 224, 3) := by decide +kernel
theorem dX11_tellsStoreOf_15 : decode cX11_tellsStoreOf 15 = .ok (.ifCond .ne 23, 3) := by decide +kernel
theorem dX11_tellsStoreOf_18 : decode cX11_tellsStoreOf 18 = .ok (.aload_n 1, 1) := by decide +kernel
theorem dX11_tellsStoreOf_19 : decode cX11_tellsStoreOf 19 = .ok (.getfield 227, 3) := by decide +kernel
theorem dX11_tellsStoreOf_22 : decode cX11_tellsStoreOf 22 = .ok (.iload_n 3, 1) := by decide +kernel
theorem dX11_tellsStoreOf_23 : decode cX11_tellsStoreOf 23 = .ok (.iaload, 1) := by decide +kernel
theorem dX11_tellsStoreOf_24 : decode cX11_tellsStoreOf 24 = .ok (.aload_n 0, 1) := by decide +kernel
theorem dX11_tellsStoreOf_25 : decode cX11_tellsStoreOf 25 = .ok (.getfield 19, 3) := by decide +kernel
theorem dX11_tellsStoreOf_28 : decode cX11_tellsStoreOf 28 = .ok (.getfield 75, 3) := by decide +kernel
theorem dX11_tellsStoreOf_31 : decode cX11_tellsStoreOf 31 = .ok (.iload_n 2, 1) := by decide +kernel
theorem dX11_tellsStoreOf_32 : decode cX11_tellsStoreOf 32 = .ok (.iaload, 1) := by decide +kernel
theorem dX11_tellsStoreOf_33 : decode cX11_tellsStoreOf 33 = .ok (.if_icmp .eq 5, 3) := by decide +kernel
theorem dX11_tellsStoreOf_36 : decode cX11_tellsStoreOf 36 = .ok (.iconst 0, 1) := by decide +kernel
theorem dX11_tellsStoreOf_37 : decode cX11_tellsStoreOf 37 = .ok (.ireturn, 1) := by decide +kernel
theorem dX11_tellsStoreOf_38 : decode cX11_tellsStoreOf 38 = .ok (.aload_n 0, 1) := by decide +kernel
theorem dX11_tellsStoreOf_39 : decode cX11_tellsStoreOf 39 = .ok (.getfield 19, 3) := by decide +kernel
theorem dX11_tellsStoreOf_42 : decode cX11_tellsStoreOf 42 = .ok (.invokevirtual 154, 3) := by decide +kernel
theorem dX11_tellsStoreOf_45 : decode cX11_tellsStoreOf 45 = .ok (.pop, 1) := by decide +kernel
theorem dX11_tellsStoreOf_46 : decode cX11_tellsStoreOf 46 = .ok (.iinc 3 1, 3) := by decide +kernel
theorem dX11_tellsStoreOf_49 : decode cX11_tellsStoreOf 49 = .ok (.goto (-47), 3) := by decide +kernel
theorem dX11_tellsStoreOf_52 : decode cX11_tellsStoreOf 52 = .ok (.iconst 1, 1) := by decide +kernel
theorem dX11_tellsStoreOf_53 : decode cX11_tellsStoreOf 53 = .ok (.ireturn, 1) := by decide +kernel
set_option maxRecDepth 20000 in
theorem ggX11_tellsAllStores_X7_isSkipped : GoodIn wsX11_tellsAllStores wsX7_isSkipped := goodIn_r _ [9, 10, 11, 12, 13, 8, 14, 15, 16, 167, 168, 169, 170, 171, 172] (by decide +kernel) (by decide +kernel)
set_option maxRecDepth 20000 in
theorem gX11_tellsAllStores_X7_isSkipped : GoodIn wsX11_tellsAllStores (wsV RX11 224 RX7 yX7_isSkipped wsX7_isSkipped) := goodIn_app (goodIn_of _ (by decide +kernel)) ggX11_tellsAllStores_X7_isSkipped
set_option maxRecDepth 20000 in
theorem ggX11_tellsAllStores_X4_storeOfSet : GoodIn wsX11_tellsAllStores wsX4_storeOfSet := goodIn_r _ [21, 22, 23, 24, 25, 26, 180, 181, 182, 183, 184, 185, 186, 187, 188, 189] (by decide +kernel) (by decide +kernel)
set_option maxRecDepth 20000 in
theorem gX11_tellsAllStores_X4_storeOfSet : GoodIn wsX11_tellsAllStores (wsV RX11 180 RX4 yX4_storeOfSet wsX4_storeOfSet) := goodIn_app (goodIn_of _ (by decide +kernel)) ggX11_tellsAllStores_X4_storeOfSet
set_option maxRecDepth 20000 in
theorem ggX11_tellsAllStores_X4_oneDay : GoodIn wsX11_tellsAllStores wsX4_oneDay := goodIn_r _ [30, 31, 22, 23, 32, 33, 34, 35, 36, 37, 38, 39, 40, 41, 20, 42, 43, 24, 25, 26, 44, 45, 46, 47, 48, 49, 50, 51, 52, 53, 54, 55, 56, 57, 58, 59, 60, 61, 62, 63, 64, 65, 66, 67, 68, 69, 70, 71, 72, 73, 74, 75, 76, 77, 78, 79, 80, 81, 82, 83, 84, 85, 86, 87, 88, 89, 90, 91, 92, 93, 94, 95, 96, 97, 98, 99, 100, 101, 102, 103, 104, 105, 106, 107, 108, 109, 110, 111, 112, 113, 114, 115, 116, 117, 118, 119, 120, 121, 122, 123, 124, 125, 126, 127, 128, 129, 130, 131, 132, 133, 134, 135, 136, 137, 138, 139, 140, 141, 142, 143, 144, 145, 146, 147, 148, 149, 150, 151, 152, 153, 154, 155, 156, 157, 158, 159, 160, 161, 162, 163, 164, 165, 166, 180, 181, 182, 183, 184, 185, 186, 187, 188, 189] (by decide +kernel) (by decide +kernel)
set_option maxRecDepth 20000 in
theorem gX11_tellsAllStores_X4_oneDay : GoodIn wsX11_tellsAllStores (wsV RX11 154 RX4 yX4_oneDay wsX4_oneDay) := goodIn_app (goodIn_of _ (by decide +kernel)) ggX11_tellsAllStores_X4_oneDay
theorem dX11_tellsAllStores_0 : decode cX11_tellsAllStores 0 = .ok (.iconst 0, 1) := by decide +kernel
theorem dX11_tellsAllStores_1 : decode cX11_tellsAllStores 1 = .ok (.istore_n 2, 1) := by decide +kernel
theorem dX11_tellsAllStores_2 : decode cX11_tellsAllStores 2 = .ok (.iload_n 2, 1) := by decide +kernel
theorem dX11_tellsAllStores_3 : decode cX11_tellsAllStores 3 = .ok (.aload_n 1, 1) := by decide +kernel
theorem dX11_tellsAllStores_4 : decode cX11_tellsAllStores 4 = .ok (.getfield 54, 3) := by decide +kernel
theorem dX11_tellsAllStores_7 : decode cX11_tellsAllStores 7 = .ok (.if_icmp .ge 50, 3) := by decide +kernel
theorem dX11_tellsAllStores_10 : decode cX11_tellsAllStores 10 = .ok (.aload_n 1, 1) := by decide +kernel
theorem dX11_tellsAllStores_11 : decode cX11_tellsAllStores 11 = .ok (.iload_n 2, 1) := by decide +kernel
theorem dX11_tellsAllStores_12 : decode cX11_tellsAllStores 12 = .ok (.invokevirtual 224, 3) := by decide +kernel
theorem dX11_tellsAllStores_15 : decode cX11_tellsAllStores 15 = .ok (.ifCond .ne 28, 3) := by decide +kernel
theorem dX11_tellsAllStores_18 : decode cX11_tellsAllStores 18 = .ok (.aload_n 1, 1) := by decide +kernel
theorem dX11_tellsAllStores_19 : decode cX11_tellsAllStores 19 = .ok (.getfield 227, 3) := by decide +kernel
theorem dX11_tellsAllStores_22 : decode cX11_tellsAllStores 22 = .ok (.iload_n 2, 1) := by decide +kernel
theorem dX11_tellsAllStores_23 : decode cX11_tellsAllStores 23 = .ok (.iaload, 1) := by decide +kernel
theorem dX11_tellsAllStores_24 : decode cX11_tellsAllStores 24 = .ok (.aload_n 0, 1) := by decide +kernel
theorem dX11_tellsAllStores_25 : decode cX11_tellsAllStores 25 = .ok (.getfield 19, 3) := by decide +kernel
theorem dX11_tellsAllStores_28 : decode cX11_tellsAllStores 28 = .ok (.aload_n 0, 1) := by decide +kernel
theorem dX11_tellsAllStores_29 : decode cX11_tellsAllStores 29 = .ok (.getfield 19, 3) := by decide +kernel
theorem dX11_tellsAllStores_32 : decode cX11_tellsAllStores 32 = .ok (.getfield 139, 3) := by decide +kernel
theorem dX11_tellsAllStores_35 : decode cX11_tellsAllStores 35 = .ok (.invokevirtual 180, 3) := by decide +kernel
theorem dX11_tellsAllStores_38 : decode cX11_tellsAllStores 38 = .ok (.if_icmp .eq 5, 3) := by decide +kernel
theorem dX11_tellsAllStores_41 : decode cX11_tellsAllStores 41 = .ok (.iconst 0, 1) := by decide +kernel
theorem dX11_tellsAllStores_42 : decode cX11_tellsAllStores 42 = .ok (.ireturn, 1) := by decide +kernel
theorem dX11_tellsAllStores_43 : decode cX11_tellsAllStores 43 = .ok (.aload_n 0, 1) := by decide +kernel
theorem dX11_tellsAllStores_44 : decode cX11_tellsAllStores 44 = .ok (.getfield 19, 3) := by decide +kernel
theorem dX11_tellsAllStores_47 : decode cX11_tellsAllStores 47 = .ok (.invokevirtual 154, 3) := by decide +kernel
theorem dX11_tellsAllStores_50 : decode cX11_tellsAllStores 50 = .ok (.pop, 1) := by decide +kernel
theorem dX11_tellsAllStores_51 : decode cX11_tellsAllStores 51 = .ok (.iinc 2 1, 3) := by decide +kernel
theorem dX11_tellsAllStores_54 : decode cX11_tellsAllStores 54 = .ok (.goto (-52), 3) := by decide +kernel
theorem dX11_tellsAllStores_57 : decode cX11_tellsAllStores 57 = .ok (.iconst 1, 1) := by decide +kernel
theorem dX11_tellsAllStores_58 : decode cX11_tellsAllStores 58 = .ok (.ireturn, 1) := by decide +kernel
set_option maxRecDepth 20000 in
theorem ggX11_tryGiving_X4_become : GoodIn wsX11_tryGiving wsX4_become := goodIn_r _ [10, 11, 12, 13, 14, 15, 16, 17, 18, 19, 20, 21, 22, 23, 188, 189, 190, 191, 192, 193, 194, 195, 196, 197] (by decide +kernel) (by decide +kernel)
set_option maxRecDepth 20000 in
theorem gX11_tryGiving_X4_become : GoodIn wsX11_tryGiving (wsV RX11 50 RX4 yX4_become wsX4_become) := goodIn_app (goodIn_of _ (by decide +kernel)) ggX11_tryGiving_X4_become
set_option maxRecDepth 20000 in
theorem ggX11_tryGiving_X4_goOn : GoodIn wsX11_tryGiving wsX4_goOn := goodIn_r _ [27, 28, 29, 30, 9, 31, 23, 19, 17, 32, 33, 34, 35, 36, 37, 38, 39, 40, 41, 42, 20, 43, 44, 45, 46, 47, 48, 49, 50, 11, 16, 22, 51, 52, 53, 54, 55, 56, 57, 58, 59, 60, 61, 62, 63, 64, 65, 66, 67, 68, 69, 70, 71, 72, 73, 74, 75, 76, 77, 78, 79, 80, 81, 82, 83, 84, 85, 86, 87, 88, 89, 90, 91, 92, 93, 94, 95, 21, 96, 97, 98, 99, 100, 101, 102, 103, 104, 105, 106, 107, 108, 109, 110, 111, 112, 113, 114, 115, 116, 117, 118, 119, 120, 121, 122, 123, 124, 125, 126, 127, 128, 129, 130, 131, 132, 133, 134, 135, 136, 137, 138, 139, 140, 141, 142, 143, 144, 145, 146, 147, 148, 149, 150, 151, 152, 153, 154, 155, 156, 157, 158, 159, 18, 160, 161, 162, 163, 188, 189, 190, 191, 192, 193, 194, 195, 196, 197] (by decide +kernel) (by decide +kernel)
set_option maxRecDepth 20000 in
theorem gX11_tryGiving_X4_goOn : GoodIn wsX11_tryGiving (wsV RX11 131 RX4 yX4_goOn wsX4_goOn) := goodIn_app (goodIn_of _ (by decide +kernel)) ggX11_tryGiving_X4_goOn
set_option maxRecDepth 20000 in
theorem ggX11_tryGiving_X11_gainInMind : GoodIn wsX11_tryGiving wsX11_gainInMind := goodIn_r _ [167, 1, 168, 169, 170, 171, 9, 172, 20, 173, 174, 175, 176, 177, 178, 179, 180, 40, 41, 42, 43, 44, 45, 181, 182, 183, 184, 185, 186, 187, 188, 189, 190, 191, 192, 193, 194, 195, 196, 197] (by decide +kernel) (by decide +kernel)
set_option maxRecDepth 20000 in
theorem gX11_tryGiving_X11_gainInMind : GoodIn wsX11_tryGiving (wsV RX11 230 RX11 yX11_gainInMind wsX11_gainInMind) := goodIn_app (goodIn_of _ (by decide +kernel)) ggX11_tryGiving_X11_gainInMind
theorem dX11_tryGiving_0 : decode cX11_tryGiving 0 = .ok (.iload_n 3, 1) := by decide +kernel
theorem dX11_tryGiving_1 : decode cX11_tryGiving 1 = .ok (.iconst 1, 1) := by decide +kernel
theorem dX11_tryGiving_2 : decode cX11_tryGiving 2 = .ok (.ishr, 1) := by decide +kernel
theorem dX11_tryGiving_3 : decode cX11_tryGiving 3 = .ok (.istore 5, 2) := by decide +kernel
theorem dX11_tryGiving_5 : decode cX11_tryGiving 5 = .ok (.iload_n 3, 1) := by decide +kernel
theorem dX11_tryGiving_6 : decode cX11_tryGiving 6 = .ok (.iconst 1, 1) := by decide +kernel
theorem dX11_tryGiving_7 : decode cX11_tryGiving 7 = .ok (.iand, 1) := by decide +kernel
theorem dX11_tryGiving_8 : decode cX11_tryGiving 8 = .ok (.istore 6, 2) := by decide +kernel
theorem dX11_tryGiving_10 : decode cX11_tryGiving 10 = .ok (.aload_n 0, 1) := by decide +kernel
theorem dX11_tryGiving_11 : decode cX11_tryGiving 11 = .ok (.getfield 19, 3) := by decide +kernel
theorem dX11_tryGiving_14 : decode cX11_tryGiving 14 = .ok (.aload_n 0, 1) := by decide +kernel
theorem dX11_tryGiving_15 : decode cX11_tryGiving 15 = .ok (.getfield 10, 3) := by decide +kernel
theorem dX11_tryGiving_18 : decode cX11_tryGiving 18 = .ok (.invokevirtual 50, 3) := by decide +kernel
theorem dX11_tryGiving_21 : decode cX11_tryGiving 21 = .ok (.aload_n 0, 1) := by decide +kernel
theorem dX11_tryGiving_22 : decode cX11_tryGiving 22 = .ok (.getfield 19, 3) := by decide +kernel
theorem dX11_tryGiving_25 : decode cX11_tryGiving 25 = .ok (.getfield 75, 3) := by decide +kernel
theorem dX11_tryGiving_28 : decode cX11_tryGiving 28 = .ok (.iload_n 1, 1) := by decide +kernel
theorem dX11_tryGiving_29 : decode cX11_tryGiving 29 = .ok (.dup2, 1) := by decide +kernel
theorem dX11_tryGiving_30 : decode cX11_tryGiving 30 = .ok (.iaload, 1) := by decide +kernel
theorem dX11_tryGiving_31 : decode cX11_tryGiving 31 = .ok (.iload 5, 2) := by decide +kernel
theorem dX11_tryGiving_33 : decode cX11_tryGiving 33 = .ok (.aload_n 0, 1) := by decide +kernel
theorem dX11_tryGiving_34 : decode cX11_tryGiving 34 = .ok (.getfield 10, 3) := by decide +kernel
theorem dX11_tryGiving_37 : decode cX11_tryGiving 37 = .ok (.getfield 75, 3) := by decide +kernel
theorem dX11_tryGiving_40 : decode cX11_tryGiving 40 = .ok (.iload_n 1, 1) := by decide +kernel
theorem dX11_tryGiving_41 : decode cX11_tryGiving 41 = .ok (.iaload, 1) := by decide +kernel
theorem dX11_tryGiving_42 : decode cX11_tryGiving 42 = .ok (.iconst 2, 1) := by decide +kernel
theorem dX11_tryGiving_43 : decode cX11_tryGiving 43 = .ok (.idiv, 1) := by decide +kernel
theorem dX11_tryGiving_44 : decode cX11_tryGiving 44 = .ok (.imul, 1) := by decide +kernel
theorem dX11_tryGiving_45 : decode cX11_tryGiving 45 = .ok (.isub, 1) := by decide +kernel
theorem dX11_tryGiving_46 : decode cX11_tryGiving 46 = .ok (.iastore, 1) := by decide +kernel
theorem dX11_tryGiving_47 : decode cX11_tryGiving 47 = .ok (.aload_n 0, 1) := by decide +kernel
theorem dX11_tryGiving_48 : decode cX11_tryGiving 48 = .ok (.getfield 19, 3) := by decide +kernel
theorem dX11_tryGiving_51 : decode cX11_tryGiving 51 = .ok (.getfield 75, 3) := by decide +kernel
theorem dX11_tryGiving_54 : decode cX11_tryGiving 54 = .ok (.iload_n 2, 1) := by decide +kernel
theorem dX11_tryGiving_55 : decode cX11_tryGiving 55 = .ok (.dup2, 1) := by decide +kernel
theorem dX11_tryGiving_56 : decode cX11_tryGiving 56 = .ok (.iaload, 1) := by decide +kernel
theorem dX11_tryGiving_57 : decode cX11_tryGiving 57 = .ok (.iload 6, 2) := by decide +kernel
theorem dX11_tryGiving_59 : decode cX11_tryGiving 59 = .ok (.aload_n 0, 1) := by decide +kernel
theorem dX11_tryGiving_60 : decode cX11_tryGiving 60 = .ok (.getfield 10, 3) := by decide +kernel
theorem dX11_tryGiving_63 : decode cX11_tryGiving 63 = .ok (.getfield 75, 3) := by decide +kernel
theorem dX11_tryGiving_66 : decode cX11_tryGiving 66 = .ok (.iload_n 2, 1) := by decide +kernel
theorem dX11_tryGiving_67 : decode cX11_tryGiving 67 = .ok (.iaload, 1) := by decide +kernel
theorem dX11_tryGiving_68 : decode cX11_tryGiving 68 = .ok (.iconst 2, 1) := by decide +kernel
theorem dX11_tryGiving_69 : decode cX11_tryGiving 69 = .ok (.idiv, 1) := by decide +kernel
theorem dX11_tryGiving_70 : decode cX11_tryGiving 70 = .ok (.imul, 1) := by decide +kernel
theorem dX11_tryGiving_71 : decode cX11_tryGiving 71 = .ok (.isub, 1) := by decide +kernel
theorem dX11_tryGiving_72 : decode cX11_tryGiving 72 = .ok (.iastore, 1) := by decide +kernel
theorem dX11_tryGiving_73 : decode cX11_tryGiving 73 = .ok (.aload_n 0, 1) := by decide +kernel
theorem dX11_tryGiving_74 : decode cX11_tryGiving 74 = .ok (.getfield 19, 3) := by decide +kernel
theorem dX11_tryGiving_77 : decode cX11_tryGiving 77 = .ok (.iload 4, 2) := by decide +kernel
theorem dX11_tryGiving_79 : decode cX11_tryGiving 79 = .ok (.invokevirtual 131, 3) := by decide +kernel
theorem dX11_tryGiving_82 : decode cX11_tryGiving 82 = .ok (.aload_n 0, 1) := by decide +kernel
theorem dX11_tryGiving_83 : decode cX11_tryGiving 83 = .ok (.getfield 29, 3) := by decide +kernel
theorem dX11_tryGiving_86 : decode cX11_tryGiving 86 = .ok (.iload_n 3, 1) := by decide +kernel
theorem dX11_tryGiving_87 : decode cX11_tryGiving 87 = .ok (.aload_n 0, 1) := by decide +kernel
theorem dX11_tryGiving_88 : decode cX11_tryGiving 88 = .ok (.iload_n 1, 1) := by decide +kernel
theorem dX11_tryGiving_89 : decode cX11_tryGiving 89 = .ok (.invokevirtual 230, 3) := by decide +kernel
theorem dX11_tryGiving_92 : decode cX11_tryGiving 92 = .ok (.iload 5, 2) := by decide +kernel
theorem dX11_tryGiving_94 : decode cX11_tryGiving 94 = .ok (.iadd, 1) := by decide +kernel
theorem dX11_tryGiving_95 : decode cX11_tryGiving 95 = .ok (.iastore, 1) := by decide +kernel
theorem dX11_tryGiving_96 : decode cX11_tryGiving 96 = .ok (.aload_n 0, 1) := by decide +kernel
theorem dX11_tryGiving_97 : decode cX11_tryGiving 97 = .ok (.getfield 33, 3) := by decide +kernel
theorem dX11_tryGiving_100 : decode cX11_tryGiving 100 = .ok (.iload_n 3, 1) := by decide +kernel
theorem dX11_tryGiving_101 : decode cX11_tryGiving 101 = .ok (.aload_n 0, 1) := by decide +kernel
theorem dX11_tryGiving_102 : decode cX11_tryGiving 102 = .ok (.iload_n 2, 1) := by decide +kernel
theorem dX11_tryGiving_103 : decode cX11_tryGiving 103 = .ok (.invokevirtual 230, 3) := by decide +kernel
theorem dX11_tryGiving_106 : decode cX11_tryGiving 106 = .ok (.iload 6, 2) := by decide +kernel
theorem dX11_tryGiving_108 : decode cX11_tryGiving 108 = .ok (.iadd, 1) := by decide +kernel
theorem dX11_tryGiving_109 : decode cX11_tryGiving 109 = .ok (.iastore, 1) := by decide +kernel
theorem dX11_tryGiving_110 : decode cX11_tryGiving 110 = .ok (.return_, 1) := by decide +kernel
set_option maxRecDepth 20000 in
theorem ggX11_gainInMind_X4_howManyThere : GoodIn wsX11_gainInMind wsX4_howManyThere := goodIn_r _ [7, 8, 9, 10, 11, 12, 13, 14, 15, 30, 31, 32, 33, 34, 35, 36, 37, 38, 39] (by decide +kernel) (by decide +kernel)
set_option maxRecDepth 20000 in
theorem gX11_gainInMind_X4_howManyThere : GoodIn wsX11_gainInMind (wsV RX11 135 RX4 yX4_howManyThere wsX4_howManyThere) := goodIn_app (goodIn_of _ (by decide +kernel)) ggX11_gainInMind_X4_howManyThere
set_option maxRecDepth 20000 in
theorem ggX11_gainInMind_X4_isThere : GoodIn wsX11_gainInMind wsX4_isThere := goodIn_r _ [19, 8, 20, 21, 22, 30, 31, 32, 33, 34, 35, 36, 37, 38, 39] (by decide +kernel) (by decide +kernel)
set_option maxRecDepth 20000 in
theorem gX11_gainInMind_X4_isThere : GoodIn wsX11_gainInMind (wsV RX11 81 RX4 yX4_isThere wsX4_isThere) := goodIn_app (goodIn_of _ (by decide +kernel)) ggX11_gainInMind_X4_isThere
theorem dX11_gainInMind_0 : decode cX11_gainInMind 0 = .ok (.aload_n 0, 1) := by decide +kernel
theorem dX11_gainInMind_1 : decode cX11_gainInMind 1 = .ok (.getfield 19, 3) := by decide +kernel
theorem dX11_gainInMind_4 : decode cX11_gainInMind 4 = .ok (.getfield 108, 3) := by decide +kernel
theorem dX11_gainInMind_7 : decode cX11_gainInMind 7 = .ok (.aload_n 0, 1) := by decide +kernel
theorem dX11_gainInMind_8 : decode cX11_gainInMind 8 = .ok (.getfield 19, 3) := by decide +kernel
theorem dX11_gainInMind_11 : decode cX11_gainInMind 11 = .ok (.invokevirtual 135, 3) := by decide +kernel
theorem dX11_gainInMind_14 : decode cX11_gainInMind 14 = .ok (.isub, 1) := by decide +kernel
theorem dX11_gainInMind_15 : decode cX11_gainInMind 15 = .ok (.istore_n 2, 1) := by decide +kernel
theorem dX11_gainInMind_16 : decode cX11_gainInMind 16 = .ok (.aload_n 0, 1) := by decide +kernel
theorem dX11_gainInMind_17 : decode cX11_gainInMind 17 = .ok (.getfield 19, 3) := by decide +kernel
theorem dX11_gainInMind_20 : decode cX11_gainInMind 20 = .ok (.iload_n 1, 1) := by decide +kernel
theorem dX11_gainInMind_21 : decode cX11_gainInMind 21 = .ok (.invokevirtual 81, 3) := by decide +kernel
theorem dX11_gainInMind_24 : decode cX11_gainInMind 24 = .ok (.ifCond .eq 9, 3) := by decide +kernel
theorem dX11_gainInMind_27 : decode cX11_gainInMind 27 = .ok (.iconst 5, 1) := by decide +kernel
theorem dX11_gainInMind_28 : decode cX11_gainInMind 28 = .ok (.iload_n 2, 1) := by decide +kernel
theorem dX11_gainInMind_29 : decode cX11_gainInMind 29 = .ok (.iadd, 1) := by decide +kernel
theorem dX11_gainInMind_30 : decode cX11_gainInMind 30 = .ok (.goto 6, 3) := by decide +kernel
theorem dX11_gainInMind_33 : decode cX11_gainInMind 33 = .ok (.iload_n 2, 1) := by decide +kernel
theorem dX11_gainInMind_34 : decode cX11_gainInMind 34 = .ok (.iconst 1, 1) := by decide +kernel
theorem dX11_gainInMind_35 : decode cX11_gainInMind 35 = .ok (.isub, 1) := by decide +kernel
theorem dX11_gainInMind_36 : decode cX11_gainInMind 36 = .ok (.ireturn, 1) := by decide +kernel
set_option maxRecDepth 20000 in
theorem ggX11_weather_X4_become : GoodIn wsX11_weather wsX4_become := goodIn_r _ [8, 9, 10, 11, 12, 13, 14, 15, 16, 17, 18, 19, 20, 21, 166, 167, 168, 169, 170, 171, 172, 173, 174, 175] (by decide +kernel) (by decide +kernel)
set_option maxRecDepth 20000 in
theorem gX11_weather_X4_become : GoodIn wsX11_weather (wsV RX11 50 RX4 yX4_become wsX4_become) := goodIn_app (goodIn_of _ (by decide +kernel)) ggX11_weather_X4_become
set_option maxRecDepth 20000 in
theorem ggX11_weather_X11_hasBit : GoodIn wsX11_weather wsX11_hasBit := goodIn_r _ [25] (by decide +kernel) (by decide +kernel)
set_option maxRecDepth 20000 in
theorem gX11_weather_X11_hasBit : GoodIn wsX11_weather (va_wsS RX11 162 yX11_hasBit wsX11_hasBit) := goodIn_app (goodIn_of _ (by decide +kernel)) ggX11_weather_X11_hasBit
set_option maxRecDepth 20000 in
theorem ggX11_weather_X4_oneDay : GoodIn wsX11_weather wsX4_oneDay := goodIn_r _ [29, 21, 17, 15, 30, 31, 32, 33, 34, 35, 36, 37, 38, 39, 7, 40, 18, 23, 24, 25, 41, 42, 43, 44, 45, 9, 14, 20, 46, 47, 48, 49, 50, 51, 52, 53, 54, 55, 56, 57, 58, 59, 60, 61, 62, 63, 64, 65, 66, 67, 68, 69, 70, 71, 72, 73, 74, 75, 76, 77, 78, 79, 80, 81, 82, 83, 84, 85, 86, 87, 88, 89, 90, 19, 91, 92, 93, 94, 95, 96, 97, 98, 99, 100, 101, 102, 103, 104, 105, 106, 107, 108, 109, 110, 111, 112, 113, 114, 115, 116, 117, 118, 119, 120, 121, 122, 123, 124, 125, 126, 127, 128, 129, 130, 131, 132, 133, 134, 135, 136, 137, 138, 139, 140, 141, 142, 143, 144, 145, 146, 147, 148, 149, 150, 151, 152, 153, 154, 16, 155, 156, 157, 158, 166, 167, 168, 169, 170, 171, 172, 173, 174, 175] (by decide +kernel) (by decide +kernel)
set_option maxRecDepth 20000 in
theorem gX11_weather_X4_oneDay : GoodIn wsX11_weather (wsV RX11 154 RX4 yX4_oneDay wsX4_oneDay) := goodIn_app (goodIn_of _ (by decide +kernel)) ggX11_weather_X4_oneDay
theorem dX11_weather_0 : decode cX11_weather 0 = .ok (.aload_n 0, 1) := by decide +kernel
theorem dX11_weather_1 : decode cX11_weather 1 = .ok (.getfield 19, 3) := by decide +kernel
theorem dX11_weather_4 : decode cX11_weather 4 = .ok (.aload_n 0, 1) := by decide +kernel
theorem dX11_weather_5 : decode cX11_weather 5 = .ok (.getfield 10, 3) := by decide +kernel
theorem dX11_weather_8 : decode cX11_weather 8 = .ok (.invokevirtual 50, 3) := by decide +kernel
theorem dX11_weather_11 : decode cX11_weather 11 = .ok (.iconst 0, 1) := by decide +kernel
theorem dX11_weather_12 : decode cX11_weather 12 = .ok (.istore_n 3, 1) := by decide +kernel
theorem dX11_weather_13 : decode cX11_weather 13 = .ok (.iload_n 3, 1) := by decide +kernel
theorem dX11_weather_14 : decode cX11_weather 14 = .ok (.iload_n 1, 1) := by decide +kernel
theorem dX11_weather_15 : decode cX11_weather 15 = .ok (.if_icmp .ge 43, 3) := by decide +kernel
theorem dX11_weather_18 : decode cX11_weather 18 = .ok (.aload_n 0, 1) := by decide +kernel
theorem dX11_weather_19 : decode cX11_weather 19 = .ok (.getfield 19, 3) := by decide +kernel
theorem dX11_weather_22 : decode cX11_weather 22 = .ok (.iload_n 2, 1) := by decide +kernel
theorem dX11_weather_23 : decode cX11_weather 23 = .ok (.iload_n 3, 1) := by decide +kernel
theorem dX11_weather_24 : decode cX11_weather 24 = .ok (.invokestatic 162, 3) := by decide +kernel
theorem dX11_weather_27 : decode cX11_weather 27 = .ok (.ifCond .eq 7, 3) := by decide +kernel
theorem dX11_weather_30 : decode cX11_weather 30 = .ok (.iconst 0, 1) := by decide +kernel
theorem dX11_weather_31 : decode cX11_weather 31 = .ok (.goto 10, 3) := by decide +kernel
theorem dX11_weather_34 : decode cX11_weather 34 = .ok (.aload_n 0, 1) := by decide +kernel
theorem dX11_weather_35 : decode cX11_weather 35 = .ok (.getfield 10, 3) := by decide +kernel
theorem dX11_weather_38 : decode cX11_weather 38 = .ok (.getfield 111, 3) := by decide +kernel
theorem dX11_weather_41 : decode cX11_weather 41 = .ok (.putfield 111, 3) := by decide +kernel
theorem dX11_weather_44 : decode cX11_weather 44 = .ok (.aload_n 0, 1) := by decide +kernel
theorem dX11_weather_45 : decode cX11_weather 45 = .ok (.getfield 19, 3) := by decide +kernel
theorem dX11_weather_48 : decode cX11_weather 48 = .ok (.invokevirtual 154, 3) := by decide +kernel
theorem dX11_weather_51 : decode cX11_weather 51 = .ok (.pop, 1) := by decide +kernel
theorem dX11_weather_52 : decode cX11_weather 52 = .ok (.iinc 3 1, 3) := by decide +kernel
theorem dX11_weather_55 : decode cX11_weather 55 = .ok (.goto (-42), 3) := by decide +kernel
theorem dX11_weather_58 : decode cX11_weather 58 = .ok (.return_, 1) := by decide +kernel
set_option maxRecDepth 20000 in
theorem ggX11_forged_X11_refusalOfRow : GoodIn wsX11_forged wsX11_refusalOfRow := goodIn_r _ [10, 11, 12, 13, 9, 14, 1, 15, 16, 17, 18, 19, 20, 21, 28, 29, 30, 31, 32, 33, 34, 35, 36, 37, 38, 39, 40] (by decide +kernel) (by decide +kernel)
set_option maxRecDepth 20000 in
theorem gX11_forged_X11_refusalOfRow : GoodIn wsX11_forged (wsV RX11 36 RX11 yX11_refusalOfRow wsX11_refusalOfRow) := goodIn_app (goodIn_of _ (by decide +kernel)) ggX11_forged_X11_refusalOfRow
set_option maxRecDepth 20000 in
theorem ggX11_forged_X4_knows : GoodIn wsX11_forged wsX4_knows := goodIn_r _ [26, 27, 41, 42, 43, 44, 45, 46, 47, 48, 49, 50] (by decide +kernel) (by decide +kernel)
set_option maxRecDepth 20000 in
theorem gX11_forged_X4_knows : GoodIn wsX11_forged (wsV RX11 65 RX4 yX4_knows wsX4_knows) := goodIn_app (goodIn_of _ (by decide +kernel)) ggX11_forged_X4_knows
theorem dX11_forged_0 : decode cX11_forged 0 = .ok (.aload_n 0, 1) := by decide +kernel
theorem dX11_forged_1 : decode cX11_forged 1 = .ok (.iload_n 1, 1) := by decide +kernel
theorem dX11_forged_2 : decode cX11_forged 2 = .ok (.invokevirtual 36, 3) := by decide +kernel
theorem dX11_forged_5 : decode cX11_forged 5 = .ok (.istore_n 2, 1) := by decide +kernel
theorem dX11_forged_6 : decode cX11_forged 6 = .ok (.iload_n 2, 1) := by decide +kernel
theorem dX11_forged_7 : decode cX11_forged 7 = .ok (.ifCond .eq 5, 3) := by decide +kernel
theorem dX11_forged_10 : decode cX11_forged 10 = .ok (.iload_n 2, 1) := by decide +kernel
theorem dX11_forged_11 : decode cX11_forged 11 = .ok (.ireturn, 1) := by decide +kernel
theorem dX11_forged_12 : decode cX11_forged 12 = .ok (.aload_n 0, 1) := by decide +kernel
theorem dX11_forged_13 : decode cX11_forged 13 = .ok (.getfield 24, 3) := by decide +kernel
theorem dX11_forged_16 : decode cX11_forged 16 = .ok (.iload_n 1, 1) := by decide +kernel
theorem dX11_forged_17 : decode cX11_forged 17 = .ok (.aaload, 1) := by decide +kernel
theorem dX11_forged_18 : decode cX11_forged 18 = .ok (.astore_n 3, 1) := by decide +kernel
theorem dX11_forged_19 : decode cX11_forged 19 = .ok (.iconst 0, 1) := by decide +kernel
theorem dX11_forged_20 : decode cX11_forged 20 = .ok (.istore 4, 2) := by decide +kernel
theorem dX11_forged_22 : decode cX11_forged 22 = .ok (.iload 4, 2) := by decide +kernel
theorem dX11_forged_24 : decode cX11_forged 24 = .ok (.aload_n 3, 1) := by decide +kernel
theorem dX11_forged_25 : decode cX11_forged 25 = .ok (.getfield 54, 3) := by decide +kernel
theorem dX11_forged_28 : decode cX11_forged 28 = .ok (.if_icmp .ge 44, 3) := by decide +kernel
theorem dX11_forged_31 : decode cX11_forged 31 = .ok (.aload_n 0, 1) := by decide +kernel
theorem dX11_forged_32 : decode cX11_forged 32 = .ok (.getfield 10, 3) := by decide +kernel
theorem dX11_forged_35 : decode cX11_forged 35 = .ok (.iload 4, 2) := by decide +kernel
theorem dX11_forged_37 : decode cX11_forged 37 = .ok (.invokevirtual 65, 3) := by decide +kernel
theorem dX11_forged_40 : decode cX11_forged 40 = .ok (.ifCond .eq 23, 3) := by decide +kernel
theorem dX11_forged_43 : decode cX11_forged 43 = .ok (.aload_n 3, 1) := by decide +kernel
theorem dX11_forged_44 : decode cX11_forged 44 = .ok (.getfield 227, 3) := by decide +kernel
theorem dX11_forged_47 : decode cX11_forged 47 = .ok (.iload 4, 2) := by decide +kernel
theorem dX11_forged_49 : decode cX11_forged 49 = .ok (.iaload, 1) := by decide +kernel
theorem dX11_forged_50 : decode cX11_forged 50 = .ok (.aload_n 0, 1) := by decide +kernel
theorem dX11_forged_51 : decode cX11_forged 51 = .ok (.getfield 10, 3) := by decide +kernel
theorem dX11_forged_54 : decode cX11_forged 54 = .ok (.getfield 75, 3) := by decide +kernel
theorem dX11_forged_57 : decode cX11_forged 57 = .ok (.iload 4, 2) := by decide +kernel
theorem dX11_forged_59 : decode cX11_forged 59 = .ok (.iaload, 1) := by decide +kernel
theorem dX11_forged_60 : decode cX11_forged 60 = .ok (.if_icmp .eq 6, 3) := by decide +kernel
theorem dX11_forged_63 : decode cX11_forged 63 = .ok (.iload 4, 2) := by decide +kernel
theorem dX11_forged_65 : decode cX11_forged 65 = .ok (.ireturn, 1) := by decide +kernel
theorem dX11_forged_66 : decode cX11_forged 66 = .ok (.iinc 4 1, 3) := by decide +kernel
theorem dX11_forged_69 : decode cX11_forged 69 = .ok (.goto (-47), 3) := by decide +kernel
theorem dX11_forged_72 : decode cX11_forged 72 = .ok (.bipush (-4), 2) := by decide +kernel
theorem dX11_forged_74 : decode cX11_forged 74 = .ok (.ireturn, 1) := by decide +kernel
set_option maxRecDepth 20000 in
theorem ggX11_judge_X11_refusalOfRow : GoodIn wsX11_judge wsX11_refusalOfRow := goodIn_r _ [10, 11, 12, 13, 9, 14, 1, 15, 16, 17, 18, 19, 20, 21, 198, 199, 200, 201, 202, 203, 204, 205, 206, 207, 208, 209, 210] (by decide +kernel) (by decide +kernel)
set_option maxRecDepth 20000 in
theorem gX11_judge_X11_refusalOfRow : GoodIn wsX11_judge (wsV RX11 36 RX11 yX11_refusalOfRow wsX11_refusalOfRow) := goodIn_app (goodIn_of _ (by decide +kernel)) ggX11_judge_X11_refusalOfRow
set_option maxRecDepth 20000 in
theorem ggX11_judge_X4_become : GoodIn wsX11_judge wsX4_become := goodIn_r _ [26, 27, 28, 29, 30, 31, 32, 33, 34, 35, 36, 37, 38, 39, 211, 212, 213, 214, 215, 216, 217, 218, 219, 220] (by decide +kernel) (by decide +kernel)
set_option maxRecDepth 20000 in
theorem gX11_judge_X4_become : GoodIn wsX11_judge (wsV RX11 50 RX4 yX4_become wsX4_become) := goodIn_app (goodIn_of _ (by decide +kernel)) ggX11_judge_X4_become
set_option maxRecDepth 20000 in
theorem ggX11_judge_X7_isSkipped : GoodIn wsX11_judge wsX7_isSkipped := goodIn_r _ [44, 45, 46, 47, 48, 43, 49, 50, 51, 205, 206, 207, 208, 209, 210] (by decide +kernel) (by decide +kernel)
set_option maxRecDepth 20000 in
theorem gX11_judge_X7_isSkipped : GoodIn wsX11_judge (wsV RX11 224 RX7 yX7_isSkipped wsX7_isSkipped) := goodIn_app (goodIn_of _ (by decide +kernel)) ggX11_judge_X7_isSkipped
set_option maxRecDepth 20000 in
theorem ggX11_judge_X4_howManyThere : GoodIn wsX11_judge wsX4_howManyThere := goodIn_r _ [55, 36, 56, 57, 58, 59, 60, 61, 62, 211, 212, 213, 214, 215, 216, 217, 218, 219, 220] (by decide +kernel) (by decide +kernel)
set_option maxRecDepth 20000 in
theorem gX11_judge_X4_howManyThere : GoodIn wsX11_judge (wsV RX11 135 RX4 yX4_howManyThere wsX4_howManyThere) := goodIn_app (goodIn_of _ (by decide +kernel)) ggX11_judge_X4_howManyThere
set_option maxRecDepth 20000 in
theorem ggX11_judge_X4_oneDay : GoodIn wsX11_judge wsX4_oneDay := goodIn_r _ [66, 39, 35, 33, 67, 68, 69, 70, 71, 72, 73, 74, 75, 76, 25, 77, 36, 78, 9, 79, 80, 81, 82, 83, 84, 27, 32, 38, 85, 86, 87, 88, 89, 90, 91, 92, 93, 94, 95, 96, 97, 98, 99, 100, 101, 102, 103, 104, 105, 106, 107, 108, 109, 110, 111, 112, 113, 114, 115, 116, 117, 118, 119, 120, 121, 122, 123, 124, 125, 126, 127, 128, 129, 37, 130, 131, 132, 133, 134, 135, 136, 137, 138, 139, 140, 141, 142, 143, 144, 145, 146, 147, 148, 149, 150, 151, 152, 153, 154, 155, 156, 157, 158, 159, 160, 161, 162, 163, 164, 165, 166, 167, 168, 169, 170, 171, 172, 173, 174, 175, 176, 177, 178, 179, 180, 181, 182, 183, 184, 185, 186, 187, 188, 189, 190, 191, 192, 193, 34, 194, 195, 196, 197, 211, 212, 213, 214, 215, 216, 217, 218, 219, 220] (by decide +kernel) (by decide +kernel)
set_option maxRecDepth 20000 in
theorem gX11_judge_X4_oneDay : GoodIn wsX11_judge (wsV RX11 154 RX4 yX4_oneDay wsX4_oneDay) := goodIn_app (goodIn_of _ (by decide +kernel)) ggX11_judge_X4_oneDay
theorem dX11_judge_0 : decode cX11_judge 0 = .ok (.aload_n 0, 1) := by decide +kernel
theorem dX11_judge_1 : decode cX11_judge 1 = .ok (.iload_n 1, 1) := by decide +kernel
theorem dX11_judge_2 : decode cX11_judge 2 = .ok (.invokevirtual 36, 3) := by decide +kernel
theorem dX11_judge_5 : decode cX11_judge 5 = .ok (.istore_n 2, 1) := by decide +kernel
theorem dX11_judge_6 : decode cX11_judge 6 = .ok (.iload_n 2, 1) := by decide +kernel
theorem dX11_judge_7 : decode cX11_judge 7 = .ok (.ifCond .eq 5, 3) := by decide +kernel
theorem dX11_judge_10 : decode cX11_judge 10 = .ok (.iload_n 2, 1) := by decide +kernel
theorem dX11_judge_11 : decode cX11_judge 11 = .ok (.ireturn, 1) := by decide +kernel
theorem dX11_judge_12 : decode cX11_judge 12 = .ok (.aload_n 0, 1) := by decide +kernel
theorem dX11_judge_13 : decode cX11_judge 13 = .ok (.getfield 24, 3) := by decide +kernel
theorem dX11_judge_16 : decode cX11_judge 16 = .ok (.iload_n 1, 1) := by decide +kernel
theorem dX11_judge_17 : decode cX11_judge 17 = .ok (.aaload, 1) := by decide +kernel
theorem dX11_judge_18 : decode cX11_judge 18 = .ok (.astore_n 3, 1) := by decide +kernel
theorem dX11_judge_19 : decode cX11_judge 19 = .ok (.aload_n 0, 1) := by decide +kernel
theorem dX11_judge_20 : decode cX11_judge 20 = .ok (.getfield 19, 3) := by decide +kernel
theorem dX11_judge_23 : decode cX11_judge 23 = .ok (.aload_n 0, 1) := by decide +kernel
theorem dX11_judge_24 : decode cX11_judge 24 = .ok (.getfield 10, 3) := by decide +kernel
theorem dX11_judge_27 : decode cX11_judge 27 = .ok (.invokevirtual 50, 3) := by decide +kernel
theorem dX11_judge_30 : decode cX11_judge 30 = .ok (.iconst 0, 1) := by decide +kernel
theorem dX11_judge_31 : decode cX11_judge 31 = .ok (.istore 4, 2) := by decide +kernel
theorem dX11_judge_33 : decode cX11_judge 33 = .ok (.iload 4, 2) := by decide +kernel
theorem dX11_judge_35 : decode cX11_judge 35 = .ok (.aload_n 3, 1) := by decide +kernel
theorem dX11_judge_36 : decode cX11_judge 36 = .ok (.getfield 54, 3) := by decide +kernel
theorem dX11_judge_39 : decode cX11_judge 39 = .ok (.if_icmp .ge 46, 3) := by decide +kernel
theorem dX11_judge_42 : decode cX11_judge 42 = .ok (.aload_n 3, 1) := by decide +kernel
theorem dX11_judge_43 : decode cX11_judge 43 = .ok (.iload 4, 2) := by decide +kernel
theorem dX11_judge_45 : decode cX11_judge 45 = .ok (.invokevirtual 224, 3) := by decide +kernel
theorem dX11_judge_48 : decode cX11_judge 48 = .ok (.ifCond .ne 23, 3) := by decide +kernel
theorem dX11_judge_51 : decode cX11_judge 51 = .ok (.aload_n 3, 1) := by decide +kernel
theorem dX11_judge_52 : decode cX11_judge 52 = .ok (.getfield 227, 3) := by decide +kernel
theorem dX11_judge_55 : decode cX11_judge 55 = .ok (.iload 4, 2) := by decide +kernel
theorem dX11_judge_57 : decode cX11_judge 57 = .ok (.iaload, 1) := by decide +kernel
theorem dX11_judge_58 : decode cX11_judge 58 = .ok (.aload_n 0, 1) := by decide +kernel
theorem dX11_judge_59 : decode cX11_judge 59 = .ok (.getfield 19, 3) := by decide +kernel
theorem dX11_judge_62 : decode cX11_judge 62 = .ok (.invokevirtual 135, 3) := by decide +kernel
theorem dX11_judge_65 : decode cX11_judge 65 = .ok (.if_icmp .eq 6, 3) := by decide +kernel
theorem dX11_judge_68 : decode cX11_judge 68 = .ok (.iload 4, 2) := by decide +kernel
theorem dX11_judge_70 : decode cX11_judge 70 = .ok (.ireturn, 1) := by decide +kernel
theorem dX11_judge_71 : decode cX11_judge 71 = .ok (.aload_n 0, 1) := by decide +kernel
theorem dX11_judge_72 : decode cX11_judge 72 = .ok (.getfield 19, 3) := by decide +kernel
theorem dX11_judge_75 : decode cX11_judge 75 = .ok (.invokevirtual 154, 3) := by decide +kernel
theorem dX11_judge_78 : decode cX11_judge 78 = .ok (.pop, 1) := by decide +kernel
theorem dX11_judge_79 : decode cX11_judge 79 = .ok (.iinc 4 1, 3) := by decide +kernel
theorem dX11_judge_82 : decode cX11_judge 82 = .ok (.goto (-49), 3) := by decide +kernel
theorem dX11_judge_85 : decode cX11_judge 85 = .ok (.bipush (-4), 2) := by decide +kernel
theorem dX11_judge_87 : decode cX11_judge 87 = .ok (.ireturn, 1) := by decide +kernel
set_option maxRecDepth 20000 in
theorem ggX11_years_X11_within : GoodIn wsX11_years wsX11_within := goodIn_r _ [8] (by decide +kernel) (by decide +kernel)
set_option maxRecDepth 20000 in
theorem gX11_years_X11_within : GoodIn wsX11_years (va_wsS RX11 94 yX11_within wsX11_within) := goodIn_app (goodIn_of _ (by decide +kernel)) ggX11_years_X11_within
set_option maxRecDepth 20000 in
theorem ggX11_years_X4_become : GoodIn wsX11_years wsX4_become := goodIn_r _ [13, 14, 15, 16, 17, 18, 19, 20, 21, 22, 23, 24, 25, 26, 193, 194, 195, 196, 197, 198, 199, 200, 201, 202] (by decide +kernel) (by decide +kernel)
set_option maxRecDepth 20000 in
theorem gX11_years_X4_become : GoodIn wsX11_years (wsV RX11 50 RX4 yX4_become wsX4_become) := goodIn_app (goodIn_of _ (by decide +kernel)) ggX11_years_X4_become
set_option maxRecDepth 20000 in
theorem ggX11_years_X11_nextSeed : GoodIn wsX11_years wsX11_nextSeed := goodIn_r _ [29, 30] (by decide +kernel) (by decide +kernel)
set_option maxRecDepth 20000 in
theorem gX11_years_X11_nextSeed : GoodIn wsX11_years (va_wsS RX11 233 yX11_nextSeed wsX11_nextSeed) := goodIn_app (goodIn_of _ (by decide +kernel)) ggX11_years_X11_nextSeed
set_option maxRecDepth 20000 in
theorem ggX11_years_X11_drawn : GoodIn wsX11_years wsX11_drawn := goodIn_r _ [33, 34, 35] (by decide +kernel) (by decide +kernel)
set_option maxRecDepth 20000 in
theorem gX11_years_X11_drawn : GoodIn wsX11_years (va_wsS RX11 236 yX11_drawn wsX11_drawn) := goodIn_app (goodIn_of _ (by decide +kernel)) ggX11_years_X11_drawn
set_option maxRecDepth 20000 in
theorem ggX11_years_X4_goOn : GoodIn wsX11_years wsX4_goOn := goodIn_r _ [39, 40, 41, 42, 12, 43, 26, 22, 20, 44, 45, 46, 47, 48, 49, 50, 51, 52, 53, 54, 23, 55, 7, 56, 57, 58, 59, 60, 61, 14, 19, 25, 62, 63, 64, 65, 66, 67, 68, 69, 70, 71, 72, 73, 74, 75, 76, 77, 78, 79, 80, 81, 82, 83, 84, 85, 86, 87, 88, 89, 90, 91, 92, 93, 94, 95, 96, 97, 98, 99, 100, 101, 102, 103, 104, 105, 106, 24, 107, 108, 109, 110, 111, 112, 113, 114, 115, 116, 117, 118, 119, 120, 121, 122, 123, 124, 125, 126, 127, 128, 129, 130, 131, 132, 133, 134, 135, 136, 137, 138, 139, 140, 141, 142, 143, 144, 145, 146, 147, 148, 149, 150, 151, 152, 153, 154, 155, 156, 157, 158, 159, 160, 161, 162, 163, 164, 165, 166, 167, 168, 169, 170, 21, 171, 172, 173, 174, 193, 194, 195, 196, 197, 198, 199, 200, 201, 202] (by decide +kernel) (by decide +kernel)
set_option maxRecDepth 20000 in
theorem gX11_years_X4_goOn : GoodIn wsX11_years (wsV RX11 131 RX4 yX4_goOn wsX4_goOn) := goodIn_app (goodIn_of _ (by decide +kernel)) ggX11_years_X4_goOn
set_option maxRecDepth 20000 in
theorem ggX11_years_X4_howManyThere : GoodIn wsX11_years wsX4_howManyThere := goodIn_r _ [178, 23, 179, 180, 181, 182, 183, 184, 185, 193, 194, 195, 196, 197, 198, 199, 200, 201, 202] (by decide +kernel) (by decide +kernel)
set_option maxRecDepth 20000 in
theorem gX11_years_X4_howManyThere : GoodIn wsX11_years (wsV RX11 135 RX4 yX4_howManyThere wsX4_howManyThere) := goodIn_app (goodIn_of _ (by decide +kernel)) ggX11_years_X4_howManyThere
theorem dX11_years_0 : decode cX11_years 0 = .ok (.iload_n 1, 1) := by decide +kernel
theorem dX11_years_1 : decode cX11_years 1 = .ok (.iconst 1, 1) := by decide +kernel
theorem dX11_years_2 : decode cX11_years 2 = .ok (.bipush 20, 2) := by decide +kernel
theorem dX11_years_4 : decode cX11_years 4 = .ok (.invokestatic 94, 3) := by decide +kernel
theorem dX11_years_7 : decode cX11_years 7 = .ok (.ifCond .eq 12, 3) := by decide +kernel
theorem dX11_years_10 : decode cX11_years 10 = .ok (.iload_n 3, 1) := by decide +kernel
theorem dX11_years_11 : decode cX11_years 11 = .ok (.iconst 0, 1) := by decide +kernel
theorem dX11_years_12 : decode cX11_years 12 = .ok (.iconst 1, 1) := by decide +kernel
theorem dX11_years_13 : decode cX11_years 13 = .ok (.invokestatic 94, 3) := by decide +kernel
theorem dX11_years_16 : decode cX11_years 16 = .ok (.ifCond .ne 5, 3) := by decide +kernel
theorem dX11_years_19 : decode cX11_years 19 = .ok (.iconst (-1), 1) := by decide +kernel
theorem dX11_years_20 : decode cX11_years 20 = .ok (.ireturn, 1) := by decide +kernel
theorem dX11_years_21 : decode cX11_years 21 = .ok (.iload_n 2, 1) := by decide +kernel
theorem dX11_years_22 : decode cX11_years 22 = .ok (.istore 4, 2) := by decide +kernel
theorem dX11_years_24 : decode cX11_years 24 = .ok (.iconst 0, 1) := by decide +kernel
theorem dX11_years_25 : decode cX11_years 25 = .ok (.istore 5, 2) := by decide +kernel
theorem dX11_years_27 : decode cX11_years 27 = .ok (.iconst 0, 1) := by decide +kernel
theorem dX11_years_28 : decode cX11_years 28 = .ok (.istore 6, 2) := by decide +kernel
theorem dX11_years_30 : decode cX11_years 30 = .ok (.iload 6, 2) := by decide +kernel
theorem dX11_years_32 : decode cX11_years 32 = .ok (.iload_n 1, 1) := by decide +kernel
theorem dX11_years_33 : decode cX11_years 33 = .ok (.if_icmp .ge 97, 3) := by decide +kernel
theorem dX11_years_36 : decode cX11_years 36 = .ok (.aload_n 0, 1) := by decide +kernel
theorem dX11_years_37 : decode cX11_years 37 = .ok (.getfield 19, 3) := by decide +kernel
theorem dX11_years_40 : decode cX11_years 40 = .ok (.aload_n 0, 1) := by decide +kernel
theorem dX11_years_41 : decode cX11_years 41 = .ok (.getfield 10, 3) := by decide +kernel
theorem dX11_years_44 : decode cX11_years 44 = .ok (.invokevirtual 50, 3) := by decide +kernel
theorem dX11_years_47 : decode cX11_years 47 = .ok (.iload 4, 2) := by decide +kernel
theorem dX11_years_49 : decode cX11_years 49 = .ok (.invokestatic 233, 3) := by decide +kernel
theorem dX11_years_52 : decode cX11_years 52 = .ok (.istore 4, 2) := by decide +kernel
theorem dX11_years_54 : decode cX11_years 54 = .ok (.aload_n 0, 1) := by decide +kernel
theorem dX11_years_55 : decode cX11_years 55 = .ok (.getfield 19, 3) := by decide +kernel
theorem dX11_years_58 : decode cX11_years 58 = .ok (.iload 4, 2) := by decide +kernel
theorem dX11_years_60 : decode cX11_years 60 = .ok (.bipush 10, 2) := by decide +kernel
theorem dX11_years_62 : decode cX11_years 62 = .ok (.invokestatic 236, 3) := by decide +kernel
theorem dX11_years_65 : decode cX11_years 65 = .ok (.putfield 111, 3) := by decide +kernel
theorem dX11_years_68 : decode cX11_years 68 = .ok (.iload 4, 2) := by decide +kernel
theorem dX11_years_70 : decode cX11_years 70 = .ok (.invokestatic 233, 3) := by decide +kernel
theorem dX11_years_73 : decode cX11_years 73 = .ok (.istore 4, 2) := by decide +kernel
theorem dX11_years_75 : decode cX11_years 75 = .ok (.aload_n 0, 1) := by decide +kernel
theorem dX11_years_76 : decode cX11_years 76 = .ok (.getfield 19, 3) := by decide +kernel
theorem dX11_years_79 : decode cX11_years 79 = .ok (.iload 4, 2) := by decide +kernel
theorem dX11_years_81 : decode cX11_years 81 = .ok (.bipush 100, 2) := by decide +kernel
theorem dX11_years_83 : decode cX11_years 83 = .ok (.invokestatic 236, 3) := by decide +kernel
theorem dX11_years_86 : decode cX11_years 86 = .ok (.putfield 114, 3) := by decide +kernel
theorem dX11_years_89 : decode cX11_years 89 = .ok (.aload_n 0, 1) := by decide +kernel
theorem dX11_years_90 : decode cX11_years 90 = .ok (.getfield 19, 3) := by decide +kernel
theorem dX11_years_93 : decode cX11_years 93 = .ok (.bipush 20, 2) := by decide +kernel
theorem dX11_years_95 : decode cX11_years 95 = .ok (.invokevirtual 131, 3) := by decide +kernel
theorem dX11_years_98 : decode cX11_years 98 = .ok (.iload 5, 2) := by decide +kernel
theorem dX11_years_100 : decode cX11_years 100 = .ok (.iload_n 3, 1) := by decide +kernel
theorem dX11_years_101 : decode cX11_years 101 = .ok (.ifCond .ne 13, 3) := by decide +kernel
theorem dX11_years_104 : decode cX11_years 104 = .ok (.aload_n 0, 1) := by decide +kernel
theorem dX11_years_105 : decode cX11_years 105 = .ok (.getfield 19, 3) := by decide +kernel
theorem dX11_years_108 : decode cX11_years 108 = .ok (.invokevirtual 135, 3) := by decide +kernel
theorem dX11_years_111 : decode cX11_years 111 = .ok (.goto 10, 3) := by decide +kernel
theorem dX11_years_114 : decode cX11_years 114 = .ok (.aload_n 0, 1) := by decide +kernel
theorem dX11_years_115 : decode cX11_years 115 = .ok (.getfield 19, 3) := by decide +kernel
theorem dX11_years_118 : decode cX11_years 118 = .ok (.getfield 114, 3) := by decide +kernel
theorem dX11_years_121 : decode cX11_years 121 = .ok (.iadd, 1) := by decide +kernel
theorem dX11_years_122 : decode cX11_years 122 = .ok (.istore 5, 2) := by decide +kernel
theorem dX11_years_124 : decode cX11_years 124 = .ok (.iinc 6 1, 3) := by decide +kernel
theorem dX11_years_127 : decode cX11_years 127 = .ok (.goto (-97), 3) := by decide +kernel
theorem dX11_years_130 : decode cX11_years 130 = .ok (.iload 5, 2) := by decide +kernel
theorem dX11_years_132 : decode cX11_years 132 = .ok (.ireturn, 1) := by decide +kernel
theorem dX11_nextSeed_0 : decode cX11_nextSeed 0 = .ok (.iload_n 0, 1) := by decide +kernel
theorem dX11_nextSeed_1 : decode cX11_nextSeed 1 = .ok (.ldc 239, 2) := by decide +kernel
theorem dX11_nextSeed_3 : decode cX11_nextSeed 3 = .ok (.imul, 1) := by decide +kernel
theorem dX11_nextSeed_4 : decode cX11_nextSeed 4 = .ok (.sipush 12345, 3) := by decide +kernel
theorem dX11_nextSeed_7 : decode cX11_nextSeed 7 = .ok (.iadd, 1) := by decide +kernel
theorem dX11_nextSeed_8 : decode cX11_nextSeed 8 = .ok (.ireturn, 1) := by decide +kernel
theorem dX11_drawn_0 : decode cX11_drawn 0 = .ok (.iload_n 1, 1) := by decide +kernel
theorem dX11_drawn_1 : decode cX11_drawn 1 = .ok (.ifCond .gt 7, 3) := by decide +kernel
theorem dX11_drawn_4 : decode cX11_drawn 4 = .ok (.iconst 0, 1) := by decide +kernel
theorem dX11_drawn_5 : decode cX11_drawn 5 = .ok (.goto 12, 3) := by decide +kernel
theorem dX11_drawn_8 : decode cX11_drawn 8 = .ok (.iload_n 0, 1) := by decide +kernel
theorem dX11_drawn_9 : decode cX11_drawn 9 = .ok (.ldc 240, 2) := by decide +kernel
theorem dX11_drawn_11 : decode cX11_drawn 11 = .ok (.iand, 1) := by decide +kernel
theorem dX11_drawn_12 : decode cX11_drawn 12 = .ok (.ldc 241, 2) := by decide +kernel
theorem dX11_drawn_14 : decode cX11_drawn 14 = .ok (.idiv, 1) := by decide +kernel
theorem dX11_drawn_15 : decode cX11_drawn 15 = .ok (.iload_n 1, 1) := by decide +kernel
theorem dX11_drawn_16 : decode cX11_drawn 16 = .ok (.irem, 1) := by decide +kernel
theorem dX11_drawn_17 : decode cX11_drawn 17 = .ok (.ireturn, 1) := by decide +kernel
set_option maxRecDepth 20000 in
theorem ggX11_image_X4_become : GoodIn wsX11_image wsX4_become := goodIn_r _ [9, 10, 11, 12, 13, 14, 15, 16, 17, 18, 19, 20, 21, 22, 30, 31, 32, 33, 34, 35, 36, 37, 38, 39] (by decide +kernel) (by decide +kernel)
set_option maxRecDepth 20000 in
theorem gX11_image_X4_become : GoodIn wsX11_image (wsV RX11 50 RX4 yX4_become wsX4_become) := goodIn_app (goodIn_of _ (by decide +kernel)) ggX11_image_X4_become
theorem dX11_image_0 : decode cX11_image 0 = .ok (.aload_n 0, 1) := by decide +kernel
theorem dX11_image_1 : decode cX11_image 1 = .ok (.getfield 16, 3) := by decide +kernel
theorem dX11_image_4 : decode cX11_image 4 = .ok (.aload_n 0, 1) := by decide +kernel
theorem dX11_image_5 : decode cX11_image 5 = .ok (.getfield 10, 3) := by decide +kernel
theorem dX11_image_8 : decode cX11_image 8 = .ok (.invokevirtual 50, 3) := by decide +kernel
theorem dX11_image_11 : decode cX11_image 11 = .ok (.aload_n 0, 1) := by decide +kernel
theorem dX11_image_12 : decode cX11_image 12 = .ok (.iconst 1, 1) := by decide +kernel
theorem dX11_image_13 : decode cX11_image 13 = .ok (.putfield 242, 3) := by decide +kernel
theorem dX11_image_16 : decode cX11_image 16 = .ok (.aload_n 0, 1) := by decide +kernel
theorem dX11_image_17 : decode cX11_image 17 = .ok (.getfield 10, 3) := by decide +kernel
theorem dX11_image_20 : decode cX11_image 20 = .ok (.getfield 87, 3) := by decide +kernel
theorem dX11_image_23 : decode cX11_image 23 = .ok (.ireturn, 1) := by decide +kernel
set_option maxRecDepth 20000 in
theorem ggX11_restore_X4_become : GoodIn wsX11_restore wsX4_become := goodIn_r _ [9, 10, 11, 12, 13, 14, 15, 16, 17, 18, 19, 20, 21, 22, 30, 31, 32, 33, 34, 35, 36, 37, 38, 39] (by decide +kernel) (by decide +kernel)
set_option maxRecDepth 20000 in
theorem gX11_restore_X4_become : GoodIn wsX11_restore (wsV RX11 50 RX4 yX4_become wsX4_become) := goodIn_app (goodIn_of _ (by decide +kernel)) ggX11_restore_X4_become
theorem dX11_restore_0 : decode cX11_restore 0 = .ok (.aload_n 0, 1) := by decide +kernel
theorem dX11_restore_1 : decode cX11_restore 1 = .ok (.getfield 242, 3) := by decide +kernel
theorem dX11_restore_4 : decode cX11_restore 4 = .ok (.ifCond .ne 6, 3) := by decide +kernel
theorem dX11_restore_7 : decode cX11_restore 7 = .ok (.bipush (-3), 2) := by decide +kernel
theorem dX11_restore_9 : decode cX11_restore 9 = .ok (.ireturn, 1) := by decide +kernel
theorem dX11_restore_10 : decode cX11_restore 10 = .ok (.aload_n 0, 1) := by decide +kernel
theorem dX11_restore_11 : decode cX11_restore 11 = .ok (.getfield 10, 3) := by decide +kernel
theorem dX11_restore_14 : decode cX11_restore 14 = .ok (.aload_n 0, 1) := by decide +kernel
theorem dX11_restore_15 : decode cX11_restore 15 = .ok (.getfield 16, 3) := by decide +kernel
theorem dX11_restore_18 : decode cX11_restore 18 = .ok (.invokevirtual 50, 3) := by decide +kernel
theorem dX11_restore_21 : decode cX11_restore 21 = .ok (.aload_n 0, 1) := by decide +kernel
theorem dX11_restore_22 : decode cX11_restore 22 = .ok (.getfield 10, 3) := by decide +kernel
theorem dX11_restore_25 : decode cX11_restore 25 = .ok (.getfield 87, 3) := by decide +kernel
theorem dX11_restore_28 : decode cX11_restore 28 = .ok (.ireturn, 1) := by decide +kernel
set_option maxRecDepth 20000 in
theorem ggX11_count_X4_storeOfSet : GoodIn wsX11_count wsX4_storeOfSet := goodIn_r _ [11, 12, 13, 14, 15, 16, 24, 25, 26, 27, 28, 29, 30, 31, 32, 33] (by decide +kernel) (by decide +kernel)
set_option maxRecDepth 20000 in
theorem gX11_count_X4_storeOfSet : GoodIn wsX11_count (wsV RX11 180 RX4 yX4_storeOfSet wsX4_storeOfSet) := goodIn_app (goodIn_of _ (by decide +kernel)) ggX11_count_X4_storeOfSet
theorem dX11_count_0 : decode cX11_count 0 = .ok (.iload_n 1, 1) := by decide +kernel
theorem dX11_count_1 : decode cX11_count 1 = .ok (.tableswitch 94 0 5 #[39, 47, 55, 63, 71, 79], 39) := by decide +kernel
theorem dX11_count_40 : decode cX11_count 40 = .ok (.aload_n 0, 1) := by decide +kernel
theorem dX11_count_41 : decode cX11_count 41 = .ok (.getfield 10, 3) := by decide +kernel
theorem dX11_count_44 : decode cX11_count 44 = .ok (.getfield 108, 3) := by decide +kernel
theorem dX11_count_47 : decode cX11_count 47 = .ok (.ireturn, 1) := by decide +kernel
theorem dX11_count_48 : decode cX11_count 48 = .ok (.aload_n 0, 1) := by decide +kernel
theorem dX11_count_49 : decode cX11_count 49 = .ok (.getfield 10, 3) := by decide +kernel
theorem dX11_count_52 : decode cX11_count 52 = .ok (.getfield 87, 3) := by decide +kernel
theorem dX11_count_55 : decode cX11_count 55 = .ok (.ireturn, 1) := by decide +kernel
theorem dX11_count_56 : decode cX11_count 56 = .ok (.aload_n 0, 1) := by decide +kernel
theorem dX11_count_57 : decode cX11_count 57 = .ok (.getfield 10, 3) := by decide +kernel
theorem dX11_count_60 : decode cX11_count 60 = .ok (.getfield 111, 3) := by decide +kernel
theorem dX11_count_63 : decode cX11_count 63 = .ok (.ireturn, 1) := by decide +kernel
theorem dX11_count_64 : decode cX11_count 64 = .ok (.aload_n 0, 1) := by decide +kernel
theorem dX11_count_65 : decode cX11_count 65 = .ok (.getfield 10, 3) := by decide +kernel
theorem dX11_count_68 : decode cX11_count 68 = .ok (.getfield 114, 3) := by decide +kernel
theorem dX11_count_71 : decode cX11_count 71 = .ok (.ireturn, 1) := by decide +kernel
theorem dX11_count_72 : decode cX11_count 72 = .ok (.aload_n 0, 1) := by decide +kernel
theorem dX11_count_73 : decode cX11_count 73 = .ok (.getfield 10, 3) := by decide +kernel
theorem dX11_count_76 : decode cX11_count 76 = .ok (.getfield 139, 3) := by decide +kernel
theorem dX11_count_79 : decode cX11_count 79 = .ok (.ireturn, 1) := by decide +kernel
theorem dX11_count_80 : decode cX11_count 80 = .ok (.aload_n 0, 1) := by decide +kernel
theorem dX11_count_81 : decode cX11_count 81 = .ok (.getfield 10, 3) := by decide +kernel
theorem dX11_count_84 : decode cX11_count 84 = .ok (.aload_n 0, 1) := by decide +kernel
theorem dX11_count_85 : decode cX11_count 85 = .ok (.getfield 10, 3) := by decide +kernel
theorem dX11_count_88 : decode cX11_count 88 = .ok (.getfield 139, 3) := by decide +kernel
theorem dX11_count_91 : decode cX11_count 91 = .ok (.invokevirtual 180, 3) := by decide +kernel
theorem dX11_count_94 : decode cX11_count 94 = .ok (.ireturn, 1) := by decide +kernel
theorem dX11_count_95 : decode cX11_count 95 = .ok (.iconst (-1), 1) := by decide +kernel
theorem dX11_count_96 : decode cX11_count 96 = .ok (.ireturn, 1) := by decide +kernel
set_option maxRecDepth 20000 in
theorem ggX11_keep_X11_isShelf : GoodIn wsX11_keep wsX11_isShelf := goodIn_r _ [5, 6, 7, 4, 8] (by decide +kernel) (by decide +kernel)
set_option maxRecDepth 20000 in
theorem gX11_keep_X11_isShelf : GoodIn wsX11_keep (va_wsS RX11 246 yX11_isShelf wsX11_isShelf) := goodIn_app (goodIn_of _ (by decide +kernel)) ggX11_keep_X11_isShelf
set_option maxRecDepth 20000 in
theorem ggX11_keep_X11_within : GoodIn wsX11_keep wsX11_within := goodIn_r _ [8] (by decide +kernel) (by decide +kernel)
set_option maxRecDepth 20000 in
theorem gX11_keep_X11_within : GoodIn wsX11_keep (va_wsS RX11 94 yX11_within wsX11_within) := goodIn_app (goodIn_of _ (by decide +kernel)) ggX11_keep_X11_within
set_option maxRecDepth 20000 in
theorem ggX11_keep_X7_clear : GoodIn wsX11_keep wsX7_clear := goodIn_r _ [13, 14, 28, 29, 30, 31, 32, 33] (by decide +kernel) (by decide +kernel)
set_option maxRecDepth 20000 in
theorem gX11_keep_X7_clear : GoodIn wsX11_keep (wsV RX11 249 RX7 yX7_clear wsX7_clear) := goodIn_app (goodIn_of _ (by decide +kernel)) ggX11_keep_X7_clear
set_option maxRecDepth 20000 in
theorem ggX11_keep_X7_holdOne : GoodIn wsX11_keep wsX7_holdOne := goodIn_r _ [18, 14, 19, 20, 28, 29, 30, 31, 32, 33] (by decide +kernel) (by decide +kernel)
set_option maxRecDepth 20000 in
theorem gX11_keep_X7_holdOne : GoodIn wsX11_keep (wsV RX11 252 RX7 yX7_holdOne wsX7_holdOne) := goodIn_app (goodIn_of _ (by decide +kernel)) ggX11_keep_X7_holdOne
theorem dX11_keep_0 : decode cX11_keep 0 = .ok (.iload_n 1, 1) := by decide +kernel
theorem dX11_keep_1 : decode cX11_keep 1 = .ok (.invokestatic 246, 3) := by decide +kernel
theorem dX11_keep_4 : decode cX11_keep 4 = .ok (.ifCond .eq 12, 3) := by decide +kernel
theorem dX11_keep_7 : decode cX11_keep 7 = .ok (.iload_n 2, 1) := by decide +kernel
theorem dX11_keep_8 : decode cX11_keep 8 = .ok (.iconst 0, 1) := by decide +kernel
theorem dX11_keep_9 : decode cX11_keep 9 = .ok (.iconst 1, 1) := by decide +kernel
theorem dX11_keep_10 : decode cX11_keep 10 = .ok (.invokestatic 94, 3) := by decide +kernel
theorem dX11_keep_13 : decode cX11_keep 13 = .ok (.ifCond .ne 5, 3) := by decide +kernel
theorem dX11_keep_16 : decode cX11_keep 16 = .ok (.iconst (-1), 1) := by decide +kernel
theorem dX11_keep_17 : decode cX11_keep 17 = .ok (.ireturn, 1) := by decide +kernel
theorem dX11_keep_18 : decode cX11_keep 18 = .ok (.iload_n 2, 1) := by decide +kernel
theorem dX11_keep_19 : decode cX11_keep 19 = .ok (.ifCond .ne 14, 3) := by decide +kernel
theorem dX11_keep_22 : decode cX11_keep 22 = .ok (.aload_n 0, 1) := by decide +kernel
theorem dX11_keep_23 : decode cX11_keep 23 = .ok (.getfield 24, 3) := by decide +kernel
theorem dX11_keep_26 : decode cX11_keep 26 = .ok (.iload_n 1, 1) := by decide +kernel
theorem dX11_keep_27 : decode cX11_keep 27 = .ok (.aaload, 1) := by decide +kernel
theorem dX11_keep_28 : decode cX11_keep 28 = .ok (.invokevirtual 249, 3) := by decide +kernel
theorem dX11_keep_31 : decode cX11_keep 31 = .ok (.iconst 0, 1) := by decide +kernel
theorem dX11_keep_32 : decode cX11_keep 32 = .ok (.ireturn, 1) := by decide +kernel
theorem dX11_keep_33 : decode cX11_keep 33 = .ok (.iload_n 3, 1) := by decide +kernel
theorem dX11_keep_34 : decode cX11_keep 34 = .ok (.iconst 0, 1) := by decide +kernel
theorem dX11_keep_35 : decode cX11_keep 35 = .ok (.bipush 7, 2) := by decide +kernel
theorem dX11_keep_37 : decode cX11_keep 37 = .ok (.invokestatic 94, 3) := by decide +kernel
theorem dX11_keep_40 : decode cX11_keep 40 = .ok (.ifCond .eq 14, 3) := by decide +kernel
theorem dX11_keep_43 : decode cX11_keep 43 = .ok (.iload 4, 2) := by decide +kernel
theorem dX11_keep_45 : decode cX11_keep 45 = .ok (.iconst 0, 1) := by decide +kernel
theorem dX11_keep_46 : decode cX11_keep 46 = .ok (.bipush 9, 2) := by decide +kernel
theorem dX11_keep_48 : decode cX11_keep 48 = .ok (.invokestatic 94, 3) := by decide +kernel
theorem dX11_keep_51 : decode cX11_keep 51 = .ok (.ifCond .ne 5, 3) := by decide +kernel
theorem dX11_keep_54 : decode cX11_keep 54 = .ok (.iconst (-1), 1) := by decide +kernel
theorem dX11_keep_55 : decode cX11_keep 55 = .ok (.ireturn, 1) := by decide +kernel
theorem dX11_keep_56 : decode cX11_keep 56 = .ok (.aload_n 0, 1) := by decide +kernel
theorem dX11_keep_57 : decode cX11_keep 57 = .ok (.getfield 24, 3) := by decide +kernel
theorem dX11_keep_60 : decode cX11_keep 60 = .ok (.iload_n 1, 1) := by decide +kernel
theorem dX11_keep_61 : decode cX11_keep 61 = .ok (.aaload, 1) := by decide +kernel
theorem dX11_keep_62 : decode cX11_keep 62 = .ok (.iload_n 3, 1) := by decide +kernel
theorem dX11_keep_63 : decode cX11_keep 63 = .ok (.iload 4, 2) := by decide +kernel
theorem dX11_keep_65 : decode cX11_keep 65 = .ok (.invokevirtual 252, 3) := by decide +kernel
theorem dX11_keep_68 : decode cX11_keep 68 = .ok (.iconst 0, 1) := by decide +kernel
theorem dX11_keep_69 : decode cX11_keep 69 = .ok (.ireturn, 1) := by decide +kernel
set_option maxRecDepth 20000 in
theorem ggX11_row_X11_isShelf : GoodIn wsX11_row wsX11_isShelf := goodIn_r _ [5, 6, 7, 4, 8] (by decide +kernel) (by decide +kernel)
set_option maxRecDepth 20000 in
theorem gX11_row_X11_isShelf : GoodIn wsX11_row (va_wsS RX11 246 yX11_isShelf wsX11_isShelf) := goodIn_app (goodIn_of _ (by decide +kernel)) ggX11_row_X11_isShelf
set_option maxRecDepth 20000 in
theorem ggX11_row_X11_within : GoodIn wsX11_row wsX11_within := goodIn_r _ [8] (by decide +kernel) (by decide +kernel)
set_option maxRecDepth 20000 in
theorem gX11_row_X11_within : GoodIn wsX11_row (va_wsS RX11 94 yX11_within wsX11_within) := goodIn_app (goodIn_of _ (by decide +kernel)) ggX11_row_X11_within
set_option maxRecDepth 20000 in
theorem ggX11_row_X7_holdRow : GoodIn wsX11_row wsX7_holdRow := goodIn_r _ [13, 14, 15, 16, 17, 25, 26, 27, 28, 29, 30] (by decide +kernel) (by decide +kernel)
set_option maxRecDepth 20000 in
theorem gX11_row_X7_holdRow : GoodIn wsX11_row (wsV RX11 255 RX7 yX7_holdRow wsX7_holdRow) := goodIn_app (goodIn_of _ (by decide +kernel)) ggX11_row_X7_holdRow
theorem dX11_row_0 : decode cX11_row 0 = .ok (.iload_n 1, 1) := by decide +kernel
theorem dX11_row_1 : decode cX11_row 1 = .ok (.invokestatic 246, 3) := by decide +kernel
theorem dX11_row_4 : decode cX11_row 4 = .ok (.ifCond .eq 18, 3) := by decide +kernel
theorem dX11_row_7 : decode cX11_row 7 = .ok (.iload_n 2, 1) := by decide +kernel
theorem dX11_row_8 : decode cX11_row 8 = .ok (.iconst 0, 1) := by decide +kernel
theorem dX11_row_9 : decode cX11_row 9 = .ok (.iconst 2, 1) := by decide +kernel
theorem dX11_row_10 : decode cX11_row 10 = .ok (.invokestatic 94, 3) := by decide +kernel
theorem dX11_row_13 : decode cX11_row 13 = .ok (.ifCond .eq 9, 3) := by decide +kernel
theorem dX11_row_16 : decode cX11_row 16 = .ok (.iload_n 3, 1) := by decide +kernel
theorem dX11_row_17 : decode cX11_row 17 = .ok (.bipush 100, 2) := by decide +kernel
theorem dX11_row_19 : decode cX11_row 19 = .ok (.if_icmp .le 5, 3) := by decide +kernel
theorem dX11_row_22 : decode cX11_row 22 = .ok (.iconst (-1), 1) := by decide +kernel
theorem dX11_row_23 : decode cX11_row 23 = .ok (.ireturn, 1) := by decide +kernel
theorem dX11_row_24 : decode cX11_row 24 = .ok (.iload_n 3, 1) := by decide +kernel
theorem dX11_row_25 : decode cX11_row 25 = .ok (.ifCond .ge 6, 3) := by decide +kernel
theorem dX11_row_28 : decode cX11_row 28 = .ok (.bipush (-14), 2) := by decide +kernel
theorem dX11_row_30 : decode cX11_row 30 = .ok (.ireturn, 1) := by decide +kernel
theorem dX11_row_31 : decode cX11_row 31 = .ok (.aload_n 0, 1) := by decide +kernel
theorem dX11_row_32 : decode cX11_row 32 = .ok (.getfield 24, 3) := by decide +kernel
theorem dX11_row_35 : decode cX11_row 35 = .ok (.iload_n 1, 1) := by decide +kernel
theorem dX11_row_36 : decode cX11_row 36 = .ok (.aaload, 1) := by decide +kernel
theorem dX11_row_37 : decode cX11_row 37 = .ok (.iload_n 2, 1) := by decide +kernel
theorem dX11_row_38 : decode cX11_row 38 = .ok (.iload_n 3, 1) := by decide +kernel
theorem dX11_row_39 : decode cX11_row 39 = .ok (.invokevirtual 255, 3) := by decide +kernel
theorem dX11_row_42 : decode cX11_row 42 = .ok (.iconst 0, 1) := by decide +kernel
theorem dX11_row_43 : decode cX11_row 43 = .ok (.ireturn, 1) := by decide +kernel
set_option maxRecDepth 20000 in
theorem ggX11_put_X11_refusalOfRow : GoodIn wsX11_put wsX11_refusalOfRow := goodIn_r _ [7, 8, 9, 10, 6, 11, 1, 12, 13, 14, 15, 16, 17, 18, 30, 31, 32, 33, 34, 35, 36, 37, 38, 39, 40, 41, 42] (by decide +kernel) (by decide +kernel)
set_option maxRecDepth 20000 in
theorem gX11_put_X11_refusalOfRow : GoodIn wsX11_put (wsV RX11 36 RX11 yX11_refusalOfRow wsX11_refusalOfRow) := goodIn_app (goodIn_of _ (by decide +kernel)) ggX11_put_X11_refusalOfRow
set_option maxRecDepth 20000 in
theorem ggX11_put_X7_hasPlace : GoodIn wsX11_put wsX7_hasPlace := goodIn_r _ [23, 24, 37, 38, 39, 40, 41, 42] (by decide +kernel) (by decide +kernel)
set_option maxRecDepth 20000 in
theorem gX11_put_X7_hasPlace : GoodIn wsX11_put (wsV RX11 258 RX7 yX7_hasPlace wsX7_hasPlace) := goodIn_app (goodIn_of _ (by decide +kernel)) ggX11_put_X7_hasPlace
set_option maxRecDepth 20000 in
theorem ggX11_put_X7_lowestBits : GoodIn wsX11_put wsX7_lowestBits := goodIn_r _ [28, 29, 37, 38, 39, 40, 41, 42] (by decide +kernel) (by decide +kernel)
set_option maxRecDepth 20000 in
theorem gX11_put_X7_lowestBits : GoodIn wsX11_put (wsV RX11 261 RX7 yX7_lowestBits wsX7_lowestBits) := goodIn_app (goodIn_of _ (by decide +kernel)) ggX11_put_X7_lowestBits
theorem dX11_put_0 : decode cX11_put 0 = .ok (.aload_n 0, 1) := by decide +kernel
theorem dX11_put_1 : decode cX11_put 1 = .ok (.iload_n 1, 1) := by decide +kernel
theorem dX11_put_2 : decode cX11_put 2 = .ok (.invokevirtual 36, 3) := by decide +kernel
theorem dX11_put_5 : decode cX11_put 5 = .ok (.istore 4, 2) := by decide +kernel
theorem dX11_put_7 : decode cX11_put 7 = .ok (.iload 4, 2) := by decide +kernel
theorem dX11_put_9 : decode cX11_put 9 = .ok (.ifCond .eq 6, 3) := by decide +kernel
theorem dX11_put_12 : decode cX11_put 12 = .ok (.iload 4, 2) := by decide +kernel
theorem dX11_put_14 : decode cX11_put 14 = .ok (.ireturn, 1) := by decide +kernel
theorem dX11_put_15 : decode cX11_put 15 = .ok (.aload_n 0, 1) := by decide +kernel
theorem dX11_put_16 : decode cX11_put 16 = .ok (.getfield 24, 3) := by decide +kernel
theorem dX11_put_19 : decode cX11_put 19 = .ok (.iload_n 1, 1) := by decide +kernel
theorem dX11_put_20 : decode cX11_put 20 = .ok (.aaload, 1) := by decide +kernel
theorem dX11_put_21 : decode cX11_put 21 = .ok (.iload_n 2, 1) := by decide +kernel
theorem dX11_put_22 : decode cX11_put 22 = .ok (.invokevirtual 258, 3) := by decide +kernel
theorem dX11_put_25 : decode cX11_put 25 = .ok (.ifCond .ne 6, 3) := by decide +kernel
theorem dX11_put_28 : decode cX11_put 28 = .ok (.bipush (-13), 2) := by decide +kernel
theorem dX11_put_30 : decode cX11_put 30 = .ok (.ireturn, 1) := by decide +kernel
theorem dX11_put_31 : decode cX11_put 31 = .ok (.aload_n 0, 1) := by decide +kernel
theorem dX11_put_32 : decode cX11_put 32 = .ok (.getfield 24, 3) := by decide +kernel
theorem dX11_put_35 : decode cX11_put 35 = .ok (.iload_n 1, 1) := by decide +kernel
theorem dX11_put_36 : decode cX11_put 36 = .ok (.aaload, 1) := by decide +kernel
theorem dX11_put_37 : decode cX11_put 37 = .ok (.getfield 227, 3) := by decide +kernel
theorem dX11_put_40 : decode cX11_put 40 = .ok (.iload_n 2, 1) := by decide +kernel
theorem dX11_put_41 : decode cX11_put 41 = .ok (.aload_n 0, 1) := by decide +kernel
theorem dX11_put_42 : decode cX11_put 42 = .ok (.getfield 24, 3) := by decide +kernel
theorem dX11_put_45 : decode cX11_put 45 = .ok (.iload_n 1, 1) := by decide +kernel
theorem dX11_put_46 : decode cX11_put 46 = .ok (.aaload, 1) := by decide +kernel
theorem dX11_put_47 : decode cX11_put 47 = .ok (.iload_n 3, 1) := by decide +kernel
theorem dX11_put_48 : decode cX11_put 48 = .ok (.invokevirtual 261, 3) := by decide +kernel
theorem dX11_put_51 : decode cX11_put 51 = .ok (.iastore, 1) := by decide +kernel
theorem dX11_put_52 : decode cX11_put 52 = .ok (.iconst 0, 1) := by decide +kernel
theorem dX11_put_53 : decode cX11_put 53 = .ok (.ireturn, 1) := by decide +kernel
set_option maxRecDepth 20000 in
theorem ggX11_element_X11_isShelf : GoodIn wsX11_element wsX11_isShelf := goodIn_r _ [11, 12, 13, 10, 14] (by decide +kernel) (by decide +kernel)
set_option maxRecDepth 20000 in
theorem gX11_element_X11_isShelf : GoodIn wsX11_element (va_wsS RX11 246 yX11_isShelf wsX11_isShelf) := goodIn_app (goodIn_of _ (by decide +kernel)) ggX11_element_X11_isShelf
set_option maxRecDepth 20000 in
theorem ggX11_element_X7_hasPlace : GoodIn wsX11_element wsX7_hasPlace := goodIn_r _ [19, 20, 28, 29, 30, 31, 32, 33] (by decide +kernel) (by decide +kernel)
set_option maxRecDepth 20000 in
theorem gX11_element_X7_hasPlace : GoodIn wsX11_element (wsV RX11 258 RX7 yX7_hasPlace wsX7_hasPlace) := goodIn_app (goodIn_of _ (by decide +kernel)) ggX11_element_X7_hasPlace
theorem dX11_element_0 : decode cX11_element 0 = .ok (.iload_n 1, 1) := by decide +kernel
theorem dX11_element_1 : decode cX11_element 1 = .ok (.invokestatic 246, 3) := by decide +kernel
theorem dX11_element_4 : decode cX11_element 4 = .ok (.ifCond .ne 14, 3) := by decide +kernel
theorem dX11_element_7 : decode cX11_element 7 = .ok (.new 264, 3) := by decide +kernel
theorem dX11_element_10 : decode cX11_element 10 = .ok (.dup, 1) := by decide +kernel
theorem dX11_element_11 : decode cX11_element 11 = .ok (.ldc_w 266, 3) := by decide +kernel
theorem dX11_element_14 : decode cX11_element 14 = .ok (.invokespecial 268, 3) := by decide +kernel
theorem dX11_element_17 : decode cX11_element 17 = .ok (.athrow, 1) := by decide +kernel
theorem dX11_element_18 : decode cX11_element 18 = .ok (.aload_n 0, 1) := by decide +kernel
theorem dX11_element_19 : decode cX11_element 19 = .ok (.getfield 24, 3) := by decide +kernel
theorem dX11_element_22 : decode cX11_element 22 = .ok (.iload_n 1, 1) := by decide +kernel
theorem dX11_element_23 : decode cX11_element 23 = .ok (.aaload, 1) := by decide +kernel
theorem dX11_element_24 : decode cX11_element 24 = .ok (.getfield 271, 3) := by decide +kernel
theorem dX11_element_27 : decode cX11_element 27 = .ok (.iconst 2, 1) := by decide +kernel
theorem dX11_element_28 : decode cX11_element 28 = .ok (.if_icmp .eq 14, 3) := by decide +kernel
theorem dX11_element_31 : decode cX11_element 31 = .ok (.new 274, 3) := by decide +kernel
theorem dX11_element_34 : decode cX11_element 34 = .ok (.dup, 1) := by decide +kernel
theorem dX11_element_35 : decode cX11_element 35 = .ok (.ldc_w 276, 3) := by decide +kernel
theorem dX11_element_38 : decode cX11_element 38 = .ok (.invokespecial 278, 3) := by decide +kernel
theorem dX11_element_41 : decode cX11_element 41 = .ok (.athrow, 1) := by decide +kernel
theorem dX11_element_42 : decode cX11_element 42 = .ok (.aload_n 0, 1) := by decide +kernel
theorem dX11_element_43 : decode cX11_element 43 = .ok (.getfield 24, 3) := by decide +kernel
theorem dX11_element_46 : decode cX11_element 46 = .ok (.iload_n 1, 1) := by decide +kernel
theorem dX11_element_47 : decode cX11_element 47 = .ok (.aaload, 1) := by decide +kernel
theorem dX11_element_48 : decode cX11_element 48 = .ok (.iload_n 2, 1) := by decide +kernel
theorem dX11_element_49 : decode cX11_element 49 = .ok (.invokevirtual 258, 3) := by decide +kernel
theorem dX11_element_52 : decode cX11_element 52 = .ok (.ifCond .ne 14, 3) := by decide +kernel
theorem dX11_element_55 : decode cX11_element 55 = .ok (.new 274, 3) := by decide +kernel
theorem dX11_element_58 : decode cX11_element 58 = .ok (.dup, 1) := by decide +kernel
theorem dX11_element_59 : decode cX11_element 59 = .ok (.ldc_w 279, 3) := by decide +kernel
theorem dX11_element_62 : decode cX11_element 62 = .ok (.invokespecial 278, 3) := by decide +kernel
theorem dX11_element_65 : decode cX11_element 65 = .ok (.athrow, 1) := by decide +kernel
theorem dX11_element_66 : decode cX11_element 66 = .ok (.aload_n 0, 1) := by decide +kernel
theorem dX11_element_67 : decode cX11_element 67 = .ok (.getfield 24, 3) := by decide +kernel
theorem dX11_element_70 : decode cX11_element 70 = .ok (.iload_n 1, 1) := by decide +kernel
theorem dX11_element_71 : decode cX11_element 71 = .ok (.aaload, 1) := by decide +kernel
theorem dX11_element_72 : decode cX11_element 72 = .ok (.getfield 227, 3) := by decide +kernel
theorem dX11_element_75 : decode cX11_element 75 = .ok (.iload_n 2, 1) := by decide +kernel
theorem dX11_element_76 : decode cX11_element 76 = .ok (.iaload, 1) := by decide +kernel
theorem dX11_element_77 : decode cX11_element 77 = .ok (.i2l, 1) := by decide +kernel
theorem dX11_element_78 : decode cX11_element 78 = .ok (.lreturn, 1) := by decide +kernel
set_option maxRecDepth 20000 in
theorem ggX11_copy_X11_isShelf : GoodIn wsX11_copy wsX11_isShelf := goodIn_r _ [12, 13, 14, 11, 15] (by decide +kernel) (by decide +kernel)
set_option maxRecDepth 20000 in
theorem gX11_copy_X11_isShelf : GoodIn wsX11_copy (va_wsS RX11 246 yX11_isShelf wsX11_isShelf) := goodIn_app (goodIn_of _ (by decide +kernel)) ggX11_copy_X11_isShelf
set_option maxRecDepth 20000 in
theorem ggX11_copy_X7_hasRun : GoodIn wsX11_copy wsX7_hasRun := goodIn_r _ [20, 21, 29, 30, 31, 32, 33, 34] (by decide +kernel) (by decide +kernel)
set_option maxRecDepth 20000 in
theorem gX11_copy_X7_hasRun : GoodIn wsX11_copy (wsV RX11 281 RX7 yX7_hasRun wsX7_hasRun) := goodIn_app (goodIn_of _ (by decide +kernel)) ggX11_copy_X7_hasRun
theorem dX11_copy_0 : decode cX11_copy 0 = .ok (.iload_n 1, 1) := by decide +kernel
theorem dX11_copy_1 : decode cX11_copy 1 = .ok (.invokestatic 246, 3) := by decide +kernel
theorem dX11_copy_4 : decode cX11_copy 4 = .ok (.ifCond .eq 10, 3) := by decide +kernel
theorem dX11_copy_7 : decode cX11_copy 7 = .ok (.iload_n 3, 1) := by decide +kernel
theorem dX11_copy_8 : decode cX11_copy 8 = .ok (.invokestatic 246, 3) := by decide +kernel
theorem dX11_copy_11 : decode cX11_copy 11 = .ok (.ifCond .ne 5, 3) := by decide +kernel
theorem dX11_copy_14 : decode cX11_copy 14 = .ok (.iconst (-1), 1) := by decide +kernel
theorem dX11_copy_15 : decode cX11_copy 15 = .ok (.ireturn, 1) := by decide +kernel
theorem dX11_copy_16 : decode cX11_copy 16 = .ok (.aload_n 0, 1) := by decide +kernel
theorem dX11_copy_17 : decode cX11_copy 17 = .ok (.getfield 24, 3) := by decide +kernel
theorem dX11_copy_20 : decode cX11_copy 20 = .ok (.iload_n 1, 1) := by decide +kernel
theorem dX11_copy_21 : decode cX11_copy 21 = .ok (.aaload, 1) := by decide +kernel
theorem dX11_copy_22 : decode cX11_copy 22 = .ok (.astore 6, 2) := by decide +kernel
theorem dX11_copy_24 : decode cX11_copy 24 = .ok (.aload_n 0, 1) := by decide +kernel
theorem dX11_copy_25 : decode cX11_copy 25 = .ok (.getfield 24, 3) := by decide +kernel
theorem dX11_copy_28 : decode cX11_copy 28 = .ok (.iload_n 3, 1) := by decide +kernel
theorem dX11_copy_29 : decode cX11_copy 29 = .ok (.aaload, 1) := by decide +kernel
theorem dX11_copy_30 : decode cX11_copy 30 = .ok (.astore 7, 2) := by decide +kernel
theorem dX11_copy_32 : decode cX11_copy 32 = .ok (.aload 6, 2) := by decide +kernel
theorem dX11_copy_34 : decode cX11_copy 34 = .ok (.getfield 271, 3) := by decide +kernel
theorem dX11_copy_37 : decode cX11_copy 37 = .ok (.ifCond .eq 11, 3) := by decide +kernel
theorem dX11_copy_40 : decode cX11_copy 40 = .ok (.aload 7, 2) := by decide +kernel
theorem dX11_copy_42 : decode cX11_copy 42 = .ok (.getfield 271, 3) := by decide +kernel
theorem dX11_copy_45 : decode cX11_copy 45 = .ok (.ifCond .ne 6, 3) := by decide +kernel
theorem dX11_copy_48 : decode cX11_copy 48 = .ok (.bipush (-11), 2) := by decide +kernel
theorem dX11_copy_50 : decode cX11_copy 50 = .ok (.ireturn, 1) := by decide +kernel
theorem dX11_copy_51 : decode cX11_copy 51 = .ok (.aload 6, 2) := by decide +kernel
theorem dX11_copy_53 : decode cX11_copy 53 = .ok (.getfield 271, 3) := by decide +kernel
theorem dX11_copy_56 : decode cX11_copy 56 = .ok (.iconst 2, 1) := by decide +kernel
theorem dX11_copy_57 : decode cX11_copy 57 = .ok (.if_icmp .ne 25, 3) := by decide +kernel
theorem dX11_copy_60 : decode cX11_copy 60 = .ok (.aload 7, 2) := by decide +kernel
theorem dX11_copy_62 : decode cX11_copy 62 = .ok (.getfield 271, 3) := by decide +kernel
theorem dX11_copy_65 : decode cX11_copy 65 = .ok (.iconst 2, 1) := by decide +kernel
theorem dX11_copy_66 : decode cX11_copy 66 = .ok (.if_icmp .ne 16, 3) := by decide +kernel
theorem dX11_copy_69 : decode cX11_copy 69 = .ok (.aload 6, 2) := by decide +kernel
theorem dX11_copy_71 : decode cX11_copy 71 = .ok (.getfield 40, 3) := by decide +kernel
theorem dX11_copy_74 : decode cX11_copy 74 = .ok (.aload 7, 2) := by decide +kernel
theorem dX11_copy_76 : decode cX11_copy 76 = .ok (.getfield 40, 3) := by decide +kernel
theorem dX11_copy_79 : decode cX11_copy 79 = .ok (.if_icmp .eq 6, 3) := by decide +kernel
theorem dX11_copy_82 : decode cX11_copy 82 = .ok (.bipush (-12), 2) := by decide +kernel
theorem dX11_copy_84 : decode cX11_copy 84 = .ok (.ireturn, 1) := by decide +kernel
theorem dX11_copy_85 : decode cX11_copy 85 = .ok (.aload 6, 2) := by decide +kernel
theorem dX11_copy_87 : decode cX11_copy 87 = .ok (.iload_n 2, 1) := by decide +kernel
theorem dX11_copy_88 : decode cX11_copy 88 = .ok (.iload 5, 2) := by decide +kernel
theorem dX11_copy_90 : decode cX11_copy 90 = .ok (.invokevirtual 281, 3) := by decide +kernel
theorem dX11_copy_93 : decode cX11_copy 93 = .ok (.ifCond .eq 15, 3) := by decide +kernel
theorem dX11_copy_96 : decode cX11_copy 96 = .ok (.aload 7, 2) := by decide +kernel
theorem dX11_copy_98 : decode cX11_copy 98 = .ok (.iload 4, 2) := by decide +kernel
theorem dX11_copy_100 : decode cX11_copy 100 = .ok (.iload 5, 2) := by decide +kernel
theorem dX11_copy_102 : decode cX11_copy 102 = .ok (.invokevirtual 281, 3) := by decide +kernel
theorem dX11_copy_105 : decode cX11_copy 105 = .ok (.ifCond .ne 6, 3) := by decide +kernel
theorem dX11_copy_108 : decode cX11_copy 108 = .ok (.bipush (-13), 2) := by decide +kernel
theorem dX11_copy_110 : decode cX11_copy 110 = .ok (.ireturn, 1) := by decide +kernel
theorem dX11_copy_111 : decode cX11_copy 111 = .ok (.aload 6, 2) := by decide +kernel
theorem dX11_copy_113 : decode cX11_copy 113 = .ok (.getfield 227, 3) := by decide +kernel
theorem dX11_copy_116 : decode cX11_copy 116 = .ok (.iload_n 2, 1) := by decide +kernel
theorem dX11_copy_117 : decode cX11_copy 117 = .ok (.aload 7, 2) := by decide +kernel
theorem dX11_copy_119 : decode cX11_copy 119 = .ok (.getfield 227, 3) := by decide +kernel
theorem dX11_copy_122 : decode cX11_copy 122 = .ok (.iload 4, 2) := by decide +kernel
theorem dX11_copy_124 : decode cX11_copy 124 = .ok (.iload 5, 2) := by decide +kernel
theorem dX11_copy_126 : decode cX11_copy 126 = .ok (.invokestatic 284, 3) := by decide +kernel
theorem dX11_copy_129 : decode cX11_copy 129 = .ok (.iload 5, 2) := by decide +kernel
theorem dX11_copy_131 : decode cX11_copy 131 = .ok (.ireturn, 1) := by decide +kernel
set_option maxRecDepth 20000 in
theorem ggX11_cost_X11_refusalOfOne : GoodIn wsX11_cost wsX11_refusalOfOne := goodIn_r _ [10, 11, 12, 13, 9, 14, 3, 15, 16, 17, 18, 19, 20, 21, 65, 66, 67, 68, 69, 70, 71, 82, 83, 84, 85, 86, 87] (by decide +kernel) (by decide +kernel)
set_option maxRecDepth 20000 in
theorem gX11_cost_X11_refusalOfOne : GoodIn wsX11_cost (wsV RX11 98 RX11 yX11_refusalOfOne wsX11_refusalOfOne) := goodIn_app (goodIn_of _ (by decide +kernel)) ggX11_cost_X11_refusalOfOne
set_option maxRecDepth 20000 in
theorem ggX11_cost_X0_costs : GoodIn wsX11_cost wsX0_costs := goodIn_r _ [28] (by decide +kernel) (by decide +kernel)
set_option maxRecDepth 20000 in
theorem gX11_cost_X0_costs_u294X0 : GoodIn wsX11_cost (va_wsO RX11 294 RX0 "LetByTheBirds$Tenant" ⟨"LetByTheBirds$Tenant", "costs", "(I)I"⟩ yX0_costs wsX0_costs) := goodIn_app (goodIn_of _ (by decide +kernel)) ggX11_cost_X0_costs
set_option maxRecDepth 20000 in
theorem ggX11_cost_X1_costs : GoodIn wsX11_cost wsX1_costs := goodIn_r _ [33, 34, 23, 35, 36, 37, 29] (by decide +kernel) (by decide +kernel)
set_option maxRecDepth 20000 in
theorem gX11_cost_X1_costs_u294X1 : GoodIn wsX11_cost (va_wsO RX11 294 RX1 "LetByTheBirds$Tenant" ⟨"LetByTheBirds$Tenant", "costs", "(I)I"⟩ yX1_costs wsX1_costs) := goodIn_app (goodIn_of _ (by decide +kernel)) ggX11_cost_X1_costs
set_option maxRecDepth 20000 in
theorem ggX11_cost_X6_costs : GoodIn wsX11_cost wsX6_costs := goodIn_r _ [41] (by decide +kernel) (by decide +kernel)
set_option maxRecDepth 20000 in
theorem gX11_cost_X6_costs_u294X2 : GoodIn wsX11_cost (va_wsO RX11 294 RX2 "LetByTheBirds$Tenant" ⟨"LetByTheBirds$Tenant", "costs", "(I)I"⟩ yX6_costs wsX6_costs) := goodIn_app (goodIn_of _ (by decide +kernel)) ggX11_cost_X6_costs
set_option maxRecDepth 20000 in
theorem ggX11_cost_X3_costs : GoodIn wsX11_cost wsX3_costs := goodIn_r _ [45, 46, 23, 47, 36, 37, 29] (by decide +kernel) (by decide +kernel)
set_option maxRecDepth 20000 in
theorem gX11_cost_X3_costs_u294X3 : GoodIn wsX11_cost (va_wsO RX11 294 RX3 "LetByTheBirds$Tenant" ⟨"LetByTheBirds$Tenant", "costs", "(I)I"⟩ yX3_costs wsX3_costs) := goodIn_app (goodIn_of _ (by decide +kernel)) ggX11_cost_X3_costs
set_option maxRecDepth 20000 in
theorem ggX11_cost_X5_costs : GoodIn wsX11_cost wsX5_costs := goodIn_r _ [51, 52, 53, 54, 43, 44, 45, 46, 23, 47, 36, 37, 29] (by decide +kernel) (by decide +kernel)
set_option maxRecDepth 20000 in
theorem gX11_cost_X5_costs_u294X5 : GoodIn wsX11_cost (va_wsO RX11 294 RX5 "LetByTheBirds$Tenant" ⟨"LetByTheBirds$Tenant", "costs", "(I)I"⟩ yX5_costs wsX5_costs) := goodIn_app (goodIn_of _ (by decide +kernel)) ggX11_cost_X5_costs
set_option maxRecDepth 20000 in
theorem gX11_cost_X6_costs_u294X6 : GoodIn wsX11_cost (va_wsO RX11 294 RX6 "LetByTheBirds$Tenant" ⟨"LetByTheBirds$Tenant", "costs", "(I)I"⟩ yX6_costs wsX6_costs) := goodIn_app (goodIn_of _ (by decide +kernel)) ggX11_cost_X6_costs
set_option maxRecDepth 20000 in
theorem ggX11_cost_X8_costs : GoodIn wsX11_cost wsX8_costs := goodIn_r _ [29] (by decide +kernel) (by decide +kernel)
set_option maxRecDepth 20000 in
theorem gX11_cost_X8_costs : GoodIn wsX11_cost (wsV RX11 294 RX8 yX8_costs wsX8_costs) := goodIn_app (goodIn_of _ (by decide +kernel)) ggX11_cost_X8_costs
set_option maxRecDepth 20000 in
theorem ggX11_cost_X10_costs : GoodIn wsX11_cost wsX10_costs := goodIn_r _ [61, 62, 63, 64, 31, 32, 33, 34, 23, 35, 36, 37, 29] (by decide +kernel) (by decide +kernel)
set_option maxRecDepth 20000 in
theorem gX11_cost_X10_costs_u294X10 : GoodIn wsX11_cost (va_wsO RX11 294 RX10 "LetByTheBirds$Tenant" ⟨"LetByTheBirds$Tenant", "costs", "(I)I"⟩ yX10_costs wsX10_costs) := goodIn_app (goodIn_of _ (by decide +kernel)) ggX11_cost_X10_costs
theorem dX11_cost_0 : decode cX11_cost 0 = .ok (.aload_n 0, 1) := by decide +kernel
theorem dX11_cost_1 : decode cX11_cost 1 = .ok (.iload_n 1, 1) := by decide +kernel
theorem dX11_cost_2 : decode cX11_cost 2 = .ok (.invokevirtual 98, 3) := by decide +kernel
theorem dX11_cost_5 : decode cX11_cost 5 = .ok (.istore_n 2, 1) := by decide +kernel
theorem dX11_cost_6 : decode cX11_cost 6 = .ok (.iload_n 2, 1) := by decide +kernel
theorem dX11_cost_7 : decode cX11_cost 7 = .ok (.ifCond .eq 5, 3) := by decide +kernel
theorem dX11_cost_10 : decode cX11_cost 10 = .ok (.iload_n 2, 1) := by decide +kernel
theorem dX11_cost_11 : decode cX11_cost 11 = .ok (.ireturn, 1) := by decide +kernel
theorem dX11_cost_12 : decode cX11_cost 12 = .ok (.aload_n 0, 1) := by decide +kernel
theorem dX11_cost_13 : decode cX11_cost 13 = .ok (.getfield 10, 3) := by decide +kernel
theorem dX11_cost_16 : decode cX11_cost 16 = .ok (.getfield 290, 3) := by decide +kernel
theorem dX11_cost_19 : decode cX11_cost 19 = .ok (.aload_n 0, 1) := by decide +kernel
theorem dX11_cost_20 : decode cX11_cost 20 = .ok (.getfield 24, 3) := by decide +kernel
theorem dX11_cost_23 : decode cX11_cost 23 = .ok (.iload_n 1, 1) := by decide +kernel
theorem dX11_cost_24 : decode cX11_cost 24 = .ok (.aaload, 1) := by decide +kernel
theorem dX11_cost_25 : decode cX11_cost 25 = .ok (.getfield 101, 3) := by decide +kernel
theorem dX11_cost_28 : decode cX11_cost 28 = .ok (.aaload, 1) := by decide +kernel
theorem dX11_cost_29 : decode cX11_cost 29 = .ok (.aload_n 0, 1) := by decide +kernel
theorem dX11_cost_30 : decode cX11_cost 30 = .ok (.getfield 24, 3) := by decide +kernel
theorem dX11_cost_33 : decode cX11_cost 33 = .ok (.iload_n 1, 1) := by decide +kernel
theorem dX11_cost_34 : decode cX11_cost 34 = .ok (.aaload, 1) := by decide +kernel
theorem dX11_cost_35 : decode cX11_cost 35 = .ok (.getfield 103, 3) := by decide +kernel
theorem dX11_cost_38 : decode cX11_cost 38 = .ok (.invokevirtual 294, 3) := by decide +kernel
theorem dX11_cost_41 : decode cX11_cost 41 = .ok (.ireturn, 1) := by decide +kernel
set_option maxRecDepth 20000 in
theorem ggX11_toss_X11_refusalOfOne : GoodIn wsX11_toss wsX11_refusalOfOne := goodIn_r _ [13, 14, 15, 16, 12, 17, 6, 18, 19, 20, 21, 22, 23, 24, 94, 95, 96, 97, 98, 99, 100, 111, 112, 113, 114, 115, 116] (by decide +kernel) (by decide +kernel)
set_option maxRecDepth 20000 in
theorem gX11_toss_X11_refusalOfOne : GoodIn wsX11_toss (wsV RX11 98 RX11 yX11_refusalOfOne wsX11_refusalOfOne) := goodIn_app (goodIn_of _ (by decide +kernel)) ggX11_toss_X11_refusalOfOne
set_option maxRecDepth 20000 in
theorem ggX11_toss_X0_fail : GoodIn wsX11_toss wsX0_fail := goodIn_r _ [31] (by decide +kernel) (by decide +kernel)
set_option maxRecDepth 20000 in
theorem gX11_toss_X0_fail_u299X0 : GoodIn wsX11_toss (va_wsO RX11 299 RX0 "LetByTheBirds$Tenant" ⟨"LetByTheBirds$Tenant", "fail", "(I)V"⟩ yX0_fail wsX0_fail) := goodIn_app (goodIn_of _ (by decide +kernel)) ggX11_toss_X0_fail
set_option maxRecDepth 20000 in
theorem ggX11_toss_X1_fail : GoodIn wsX11_toss wsX1_fail := goodIn_ca (goodIn_r _ [36, 37, 38] (by decide +kernel) (by decide +kernel)) (goodIn_sub (fun _ h => List.mem_cons_of_mem _ (List.mem_append_left _ (List.mem_append_left _ (List.mem_append_right _ h)))) (by decide +kernel))
set_option maxRecDepth 20000 in
theorem gX11_toss_X1_fail_u299X1 : GoodIn wsX11_toss (va_wsO RX11 299 RX1 "LetByTheBirds$Tenant" ⟨"LetByTheBirds$Tenant", "fail", "(I)V"⟩ yX1_fail wsX1_fail) := goodIn_app (goodIn_of _ (by decide +kernel)) ggX11_toss_X1_fail
set_option maxRecDepth 20000 in
theorem gX11_toss_X0_fail_u299X2 : GoodIn wsX11_toss (va_wsO RX11 299 RX2 "LetByTheBirds$Tenant" ⟨"LetByTheBirds$Tenant", "fail", "(I)V"⟩ yX0_fail wsX0_fail) := goodIn_app (goodIn_of _ (by decide +kernel)) ggX11_toss_X0_fail
set_option maxRecDepth 20000 in
theorem ggX11_toss_X8_fail : GoodIn wsX11_toss wsX8_fail := goodIn_ca (goodIn_r _ [32, 43, 44] (by decide +kernel) (by decide +kernel)) (goodIn_sub (fun _ h => List.mem_cons_of_mem _ (List.mem_append_left _ (List.mem_append_right _ h))) (by decide +kernel))
set_option maxRecDepth 20000 in
theorem gX11_toss_X8_fail_u299X3 : GoodIn wsX11_toss (va_wsU RX11 299 RX3 "LetByTheBirds$Tenant" ⟨"LetByTheBirds$Tenant", "fail", "(I)V"⟩ yX8_fail wsX8_fail) := goodIn_app (goodIn_of _ (by decide +kernel)) ggX11_toss_X8_fail
set_option maxRecDepth 20000 in
theorem ggX11_toss_X5_fail : GoodIn wsX11_toss wsX5_fail := goodIn_ca (goodIn_r _ [48, 49, 50] (by decide +kernel) (by decide +kernel)) (goodIn_sub (fun _ h => List.mem_cons_of_mem _ (List.mem_append_right _ h)) (by decide +kernel))
set_option maxRecDepth 20000 in
theorem gX11_toss_X5_fail_u299X5 : GoodIn wsX11_toss (va_wsO RX11 299 RX5 "LetByTheBirds$Tenant" ⟨"LetByTheBirds$Tenant", "fail", "(I)V"⟩ yX5_fail wsX5_fail) := goodIn_app (goodIn_of _ (by decide +kernel)) ggX11_toss_X5_fail
set_option maxRecDepth 20000 in
theorem gX11_toss_X0_fail_u299X6 : GoodIn wsX11_toss (va_wsO RX11 299 RX6 "LetByTheBirds$Tenant" ⟨"LetByTheBirds$Tenant", "fail", "(I)V"⟩ yX0_fail wsX0_fail) := goodIn_app (goodIn_of _ (by decide +kernel)) ggX11_toss_X0_fail
set_option maxRecDepth 20000 in
theorem gX11_toss_X8_fail : GoodIn wsX11_toss (wsV RX11 299 RX8 yX8_fail wsX8_fail) := goodIn_app (goodIn_of _ (by decide +kernel)) ggX11_toss_X8_fail
set_option maxRecDepth 20000 in
theorem gX11_toss_X1_fail_u299X10 : GoodIn wsX11_toss (va_wsO RX11 299 RX10 "LetByTheBirds$Tenant" ⟨"LetByTheBirds$Tenant", "fail", "(I)V"⟩ yX1_fail wsX1_fail) := goodIn_app (goodIn_of _ (by decide +kernel)) ggX11_toss_X1_fail
set_option maxRecDepth 20000 in
theorem ggX11_toss_X0_costs : GoodIn wsX11_toss wsX0_costs := goodIn_r _ [60] (by decide +kernel) (by decide +kernel)
set_option maxRecDepth 20000 in
theorem gX11_toss_X0_costs_u294X0 : GoodIn wsX11_toss (va_wsO RX11 294 RX0 "LetByTheBirds$Tenant" ⟨"LetByTheBirds$Tenant", "costs", "(I)I"⟩ yX0_costs wsX0_costs) := goodIn_app (goodIn_of _ (by decide +kernel)) ggX11_toss_X0_costs
set_option maxRecDepth 20000 in
theorem ggX11_toss_X1_costs : GoodIn wsX11_toss wsX1_costs := goodIn_r _ [64, 65, 56, 66, 67, 42, 61] (by decide +kernel) (by decide +kernel)
set_option maxRecDepth 20000 in
theorem gX11_toss_X1_costs_u294X1 : GoodIn wsX11_toss (va_wsO RX11 294 RX1 "LetByTheBirds$Tenant" ⟨"LetByTheBirds$Tenant", "costs", "(I)I"⟩ yX1_costs wsX1_costs) := goodIn_app (goodIn_of _ (by decide +kernel)) ggX11_toss_X1_costs
set_option maxRecDepth 20000 in
theorem ggX11_toss_X6_costs : GoodIn wsX11_toss wsX6_costs := goodIn_r _ [71] (by decide +kernel) (by decide +kernel)
set_option maxRecDepth 20000 in
theorem gX11_toss_X6_costs_u294X2 : GoodIn wsX11_toss (va_wsO RX11 294 RX2 "LetByTheBirds$Tenant" ⟨"LetByTheBirds$Tenant", "costs", "(I)I"⟩ yX6_costs wsX6_costs) := goodIn_app (goodIn_of _ (by decide +kernel)) ggX11_toss_X6_costs
set_option maxRecDepth 20000 in
theorem ggX11_toss_X3_costs : GoodIn wsX11_toss wsX3_costs := goodIn_r _ [75, 76, 56, 77, 67, 42, 61] (by decide +kernel) (by decide +kernel)
set_option maxRecDepth 20000 in
theorem gX11_toss_X3_costs_u294X3 : GoodIn wsX11_toss (va_wsO RX11 294 RX3 "LetByTheBirds$Tenant" ⟨"LetByTheBirds$Tenant", "costs", "(I)I"⟩ yX3_costs wsX3_costs) := goodIn_app (goodIn_of _ (by decide +kernel)) ggX11_toss_X3_costs
set_option maxRecDepth 20000 in
theorem ggX11_toss_X5_costs : GoodIn wsX11_toss wsX5_costs := goodIn_r _ [80, 81, 82, 83, 73, 74, 75, 76, 56, 77, 67, 42, 61] (by decide +kernel) (by decide +kernel)
set_option maxRecDepth 20000 in
theorem gX11_toss_X5_costs_u294X5 : GoodIn wsX11_toss (va_wsO RX11 294 RX5 "LetByTheBirds$Tenant" ⟨"LetByTheBirds$Tenant", "costs", "(I)I"⟩ yX5_costs wsX5_costs) := goodIn_app (goodIn_of _ (by decide +kernel)) ggX11_toss_X5_costs
set_option maxRecDepth 20000 in
theorem gX11_toss_X6_costs_u294X6 : GoodIn wsX11_toss (va_wsO RX11 294 RX6 "LetByTheBirds$Tenant" ⟨"LetByTheBirds$Tenant", "costs", "(I)I"⟩ yX6_costs wsX6_costs) := goodIn_app (goodIn_of _ (by decide +kernel)) ggX11_toss_X6_costs
set_option maxRecDepth 20000 in
theorem ggX11_toss_X8_costs : GoodIn wsX11_toss wsX8_costs := goodIn_r _ [61] (by decide +kernel) (by decide +kernel)
set_option maxRecDepth 20000 in
theorem gX11_toss_X8_costs : GoodIn wsX11_toss (wsV RX11 294 RX8 yX8_costs wsX8_costs) := goodIn_app (goodIn_of _ (by decide +kernel)) ggX11_toss_X8_costs
set_option maxRecDepth 20000 in
theorem ggX11_toss_X10_costs : GoodIn wsX11_toss wsX10_costs := goodIn_r _ [90, 91, 92, 93, 63, 35, 64, 65, 56, 66, 67, 42, 61] (by decide +kernel) (by decide +kernel)
set_option maxRecDepth 20000 in
theorem gX11_toss_X10_costs_u294X10 : GoodIn wsX11_toss (va_wsO RX11 294 RX10 "LetByTheBirds$Tenant" ⟨"LetByTheBirds$Tenant", "costs", "(I)I"⟩ yX10_costs wsX10_costs) := goodIn_app (goodIn_of _ (by decide +kernel)) ggX11_toss_X10_costs
theorem dX11_toss_0 : decode cX11_toss 0 = .ok (.aload_n 0, 1) := by decide +kernel
theorem dX11_toss_1 : decode cX11_toss 1 = .ok (.iload_n 1, 1) := by decide +kernel
theorem dX11_toss_2 : decode cX11_toss 2 = .ok (.invokevirtual 98, 3) := by decide +kernel
theorem dX11_toss_5 : decode cX11_toss 5 = .ok (.istore_n 2, 1) := by decide +kernel
theorem dX11_toss_6 : decode cX11_toss 6 = .ok (.iload_n 2, 1) := by decide +kernel
theorem dX11_toss_7 : decode cX11_toss 7 = .ok (.ifCond .eq 5, 3) := by decide +kernel
theorem dX11_toss_10 : decode cX11_toss 10 = .ok (.iload_n 2, 1) := by decide +kernel
theorem dX11_toss_11 : decode cX11_toss 11 = .ok (.ireturn, 1) := by decide +kernel
theorem dX11_toss_12 : decode cX11_toss 12 = .ok (.aload_n 0, 1) := by decide +kernel
theorem dX11_toss_13 : decode cX11_toss 13 = .ok (.getfield 10, 3) := by decide +kernel
theorem dX11_toss_16 : decode cX11_toss 16 = .ok (.getfield 290, 3) := by decide +kernel
theorem dX11_toss_19 : decode cX11_toss 19 = .ok (.aload_n 0, 1) := by decide +kernel
theorem dX11_toss_20 : decode cX11_toss 20 = .ok (.getfield 24, 3) := by decide +kernel
theorem dX11_toss_23 : decode cX11_toss 23 = .ok (.iload_n 1, 1) := by decide +kernel
theorem dX11_toss_24 : decode cX11_toss 24 = .ok (.aaload, 1) := by decide +kernel
theorem dX11_toss_25 : decode cX11_toss 25 = .ok (.getfield 101, 3) := by decide +kernel
theorem dX11_toss_28 : decode cX11_toss 28 = .ok (.aaload, 1) := by decide +kernel
theorem dX11_toss_29 : decode cX11_toss 29 = .ok (.astore_n 3, 1) := by decide +kernel
theorem dX11_toss_30 : decode cX11_toss 30 = .ok (.aload_n 0, 1) := by decide +kernel
theorem dX11_toss_31 : decode cX11_toss 31 = .ok (.getfield 24, 3) := by decide +kernel
theorem dX11_toss_34 : decode cX11_toss 34 = .ok (.iload_n 1, 1) := by decide +kernel
theorem dX11_toss_35 : decode cX11_toss 35 = .ok (.aaload, 1) := by decide +kernel
theorem dX11_toss_36 : decode cX11_toss 36 = .ok (.getfield 103, 3) := by decide +kernel
theorem dX11_toss_39 : decode cX11_toss 39 = .ok (.istore 4, 2) := by decide +kernel
theorem dX11_toss_41 : decode cX11_toss 41 = .ok (.aload_n 3, 1) := by decide +kernel
theorem dX11_toss_42 : decode cX11_toss 42 = .ok (.iload 4, 2) := by decide +kernel
theorem dX11_toss_44 : decode cX11_toss 44 = .ok (.invokevirtual 299, 3) := by decide +kernel
theorem dX11_toss_47 : decode cX11_toss 47 = .ok (.goto 29, 3) := by decide +kernel
theorem dX11_toss_50 : decode cX11_toss 50 = .ok (.astore 5, 2) := by decide +kernel
theorem dX11_toss_52 : decode cX11_toss 52 = .ok (.iload 4, 2) := by decide +kernel
theorem dX11_toss_54 : decode cX11_toss 54 = .ok (.ireturn, 1) := by decide +kernel
theorem dX11_toss_55 : decode cX11_toss 55 = .ok (.astore 5, 2) := by decide +kernel
theorem dX11_toss_57 : decode cX11_toss 57 = .ok (.bipush 100, 2) := by decide +kernel
theorem dX11_toss_59 : decode cX11_toss 59 = .ok (.iload 4, 2) := by decide +kernel
theorem dX11_toss_61 : decode cX11_toss 61 = .ok (.iadd, 1) := by decide +kernel
theorem dX11_toss_62 : decode cX11_toss 62 = .ok (.ireturn, 1) := by decide +kernel
theorem dX11_toss_63 : decode cX11_toss 63 = .ok (.astore 5, 2) := by decide +kernel
theorem dX11_toss_65 : decode cX11_toss 65 = .ok (.sipush 200, 3) := by decide +kernel
theorem dX11_toss_68 : decode cX11_toss 68 = .ok (.aload_n 3, 1) := by decide +kernel
theorem dX11_toss_69 : decode cX11_toss 69 = .ok (.iload 4, 2) := by decide +kernel
theorem dX11_toss_71 : decode cX11_toss 71 = .ok (.invokevirtual 294, 3) := by decide +kernel
theorem dX11_toss_74 : decode cX11_toss 74 = .ok (.iadd, 1) := by decide +kernel
theorem dX11_toss_75 : decode cX11_toss 75 = .ok (.ireturn, 1) := by decide +kernel
theorem dX11_toss_76 : decode cX11_toss 76 = .ok (.bipush (-15), 2) := by decide +kernel
theorem dX11_toss_78 : decode cX11_toss 78 = .ok (.ireturn, 1) := by decide +kernel
set_option maxRecDepth 20000 in
theorem ggX11_refusalOfRow_X11_refusalUnless : GoodIn wsX11_refusalOfRow wsX11_refusalUnless := goodIn_r _ [5, 6, 7, 8, 9, 4, 10, 11, 12, 13, 14, 15, 16, 17, 18, 19, 20, 21, 22, 23, 24, 25, 26] (by decide +kernel) (by decide +kernel)
set_option maxRecDepth 20000 in
theorem gX11_refusalOfRow_X11_refusalUnless : GoodIn wsX11_refusalOfRow (wsV RX11 304 RX11 yX11_refusalUnless wsX11_refusalUnless) := goodIn_app (goodIn_of _ (by decide +kernel)) ggX11_refusalOfRow_X11_refusalUnless
theorem dX11_refusalOfRow_0 : decode cX11_refusalOfRow 0 = .ok (.aload_n 0, 1) := by decide +kernel
theorem dX11_refusalOfRow_1 : decode cX11_refusalOfRow 1 = .ok (.iload_n 1, 1) := by decide +kernel
theorem dX11_refusalOfRow_2 : decode cX11_refusalOfRow 2 = .ok (.iconst 2, 1) := by decide +kernel
theorem dX11_refusalOfRow_3 : decode cX11_refusalOfRow 3 = .ok (.invokevirtual 304, 3) := by decide +kernel
theorem dX11_refusalOfRow_6 : decode cX11_refusalOfRow 6 = .ok (.ireturn, 1) := by decide +kernel
set_option maxRecDepth 20000 in
theorem ggX11_refusalOfOne_X11_refusalUnless : GoodIn wsX11_refusalOfOne wsX11_refusalUnless := goodIn_r _ [5, 6, 7, 8, 9, 4, 10, 11, 12, 13, 14, 15, 16, 17, 18, 19, 20, 21, 22, 23, 24, 25, 26] (by decide +kernel) (by decide +kernel)
set_option maxRecDepth 20000 in
theorem gX11_refusalOfOne_X11_refusalUnless : GoodIn wsX11_refusalOfOne (wsV RX11 304 RX11 yX11_refusalUnless wsX11_refusalUnless) := goodIn_app (goodIn_of _ (by decide +kernel)) ggX11_refusalOfOne_X11_refusalUnless
theorem dX11_refusalOfOne_0 : decode cX11_refusalOfOne 0 = .ok (.aload_n 0, 1) := by decide +kernel
theorem dX11_refusalOfOne_1 : decode cX11_refusalOfOne 1 = .ok (.iload_n 1, 1) := by decide +kernel
theorem dX11_refusalOfOne_2 : decode cX11_refusalOfOne 2 = .ok (.iconst 1, 1) := by decide +kernel
theorem dX11_refusalOfOne_3 : decode cX11_refusalOfOne 3 = .ok (.invokevirtual 304, 3) := by decide +kernel
theorem dX11_refusalOfOne_6 : decode cX11_refusalOfOne 6 = .ok (.ireturn, 1) := by decide +kernel
set_option maxRecDepth 20000 in
theorem ggX11_refusalUnless_X11_isShelf : GoodIn wsX11_refusalUnless wsX11_isShelf := goodIn_r _ [6, 7, 8, 5, 9] (by decide +kernel) (by decide +kernel)
set_option maxRecDepth 20000 in
theorem gX11_refusalUnless_X11_isShelf : GoodIn wsX11_refusalUnless (va_wsS RX11 246 yX11_isShelf wsX11_isShelf) := goodIn_app (goodIn_of _ (by decide +kernel)) ggX11_refusalUnless_X11_isShelf
theorem dX11_refusalUnless_0 : decode cX11_refusalUnless 0 = .ok (.iload_n 1, 1) := by decide +kernel
theorem dX11_refusalUnless_1 : decode cX11_refusalUnless 1 = .ok (.invokestatic 246, 3) := by decide +kernel
theorem dX11_refusalUnless_4 : decode cX11_refusalUnless 4 = .ok (.ifCond .ne 5, 3) := by decide +kernel
theorem dX11_refusalUnless_7 : decode cX11_refusalUnless 7 = .ok (.iconst (-1), 1) := by decide +kernel
theorem dX11_refusalUnless_8 : decode cX11_refusalUnless 8 = .ok (.ireturn, 1) := by decide +kernel
theorem dX11_refusalUnless_9 : decode cX11_refusalUnless 9 = .ok (.aload_n 0, 1) := by decide +kernel
theorem dX11_refusalUnless_10 : decode cX11_refusalUnless 10 = .ok (.getfield 24, 3) := by decide +kernel
theorem dX11_refusalUnless_13 : decode cX11_refusalUnless 13 = .ok (.iload_n 1, 1) := by decide +kernel
theorem dX11_refusalUnless_14 : decode cX11_refusalUnless 14 = .ok (.aaload, 1) := by decide +kernel
theorem dX11_refusalUnless_15 : decode cX11_refusalUnless 15 = .ok (.getfield 271, 3) := by decide +kernel
theorem dX11_refusalUnless_18 : decode cX11_refusalUnless 18 = .ok (.ifCond .ne 6, 3) := by decide +kernel
theorem dX11_refusalUnless_21 : decode cX11_refusalUnless 21 = .ok (.bipush (-11), 2) := by decide +kernel
theorem dX11_refusalUnless_23 : decode cX11_refusalUnless 23 = .ok (.ireturn, 1) := by decide +kernel
theorem dX11_refusalUnless_24 : decode cX11_refusalUnless 24 = .ok (.aload_n 0, 1) := by decide +kernel
theorem dX11_refusalUnless_25 : decode cX11_refusalUnless 25 = .ok (.getfield 24, 3) := by decide +kernel
theorem dX11_refusalUnless_28 : decode cX11_refusalUnless 28 = .ok (.iload_n 1, 1) := by decide +kernel
theorem dX11_refusalUnless_29 : decode cX11_refusalUnless 29 = .ok (.aaload, 1) := by decide +kernel
theorem dX11_refusalUnless_30 : decode cX11_refusalUnless 30 = .ok (.getfield 271, 3) := by decide +kernel
theorem dX11_refusalUnless_33 : decode cX11_refusalUnless 33 = .ok (.iload_n 2, 1) := by decide +kernel
theorem dX11_refusalUnless_34 : decode cX11_refusalUnless 34 = .ok (.if_icmp .ne 7, 3) := by decide +kernel
theorem dX11_refusalUnless_37 : decode cX11_refusalUnless 37 = .ok (.iconst 0, 1) := by decide +kernel
theorem dX11_refusalUnless_38 : decode cX11_refusalUnless 38 = .ok (.goto 5, 3) := by decide +kernel
theorem dX11_refusalUnless_41 : decode cX11_refusalUnless 41 = .ok (.bipush (-12), 2) := by decide +kernel
theorem dX11_refusalUnless_43 : decode cX11_refusalUnless 43 = .ok (.ireturn, 1) := by decide +kernel
set_option maxRecDepth 20000 in
theorem ggX11_areTwo_X4_knows : GoodIn wsX11_areTwo wsX4_knows := goodIn_r _ [6, 7, 15, 16, 17, 18, 19, 20, 21, 22, 23, 24] (by decide +kernel) (by decide +kernel)
set_option maxRecDepth 20000 in
theorem gX11_areTwo_X4_knows : GoodIn wsX11_areTwo (wsV RX11 65 RX4 yX4_knows wsX4_knows) := goodIn_app (goodIn_of _ (by decide +kernel)) ggX11_areTwo_X4_knows
theorem dX11_areTwo_0 : decode cX11_areTwo 0 = .ok (.aload_n 0, 1) := by decide +kernel
theorem dX11_areTwo_1 : decode cX11_areTwo 1 = .ok (.getfield 10, 3) := by decide +kernel
theorem dX11_areTwo_4 : decode cX11_areTwo 4 = .ok (.iload_n 1, 1) := by decide +kernel
theorem dX11_areTwo_5 : decode cX11_areTwo 5 = .ok (.invokevirtual 65, 3) := by decide +kernel
theorem dX11_areTwo_8 : decode cX11_areTwo 8 = .ok (.ifCond .eq 23, 3) := by decide +kernel
theorem dX11_areTwo_11 : decode cX11_areTwo 11 = .ok (.aload_n 0, 1) := by decide +kernel
theorem dX11_areTwo_12 : decode cX11_areTwo 12 = .ok (.getfield 10, 3) := by decide +kernel
theorem dX11_areTwo_15 : decode cX11_areTwo 15 = .ok (.iload_n 2, 1) := by decide +kernel
theorem dX11_areTwo_16 : decode cX11_areTwo 16 = .ok (.invokevirtual 65, 3) := by decide +kernel
theorem dX11_areTwo_19 : decode cX11_areTwo 19 = .ok (.ifCond .eq 12, 3) := by decide +kernel
theorem dX11_areTwo_22 : decode cX11_areTwo 22 = .ok (.iload_n 1, 1) := by decide +kernel
theorem dX11_areTwo_23 : decode cX11_areTwo 23 = .ok (.iload_n 2, 1) := by decide +kernel
theorem dX11_areTwo_24 : decode cX11_areTwo 24 = .ok (.if_icmp .eq 7, 3) := by decide +kernel
theorem dX11_areTwo_27 : decode cX11_areTwo 27 = .ok (.iconst 1, 1) := by decide +kernel
theorem dX11_areTwo_28 : decode cX11_areTwo 28 = .ok (.goto 4, 3) := by decide +kernel
theorem dX11_areTwo_31 : decode cX11_areTwo 31 = .ok (.iconst 0, 1) := by decide +kernel
theorem dX11_areTwo_32 : decode cX11_areTwo 32 = .ok (.ireturn, 1) := by decide +kernel
set_option maxRecDepth 20000 in
theorem ggX11_isShelf_X11_within : GoodIn wsX11_isShelf wsX11_within := goodIn_r _ [4] (by decide +kernel) (by decide +kernel)
set_option maxRecDepth 20000 in
theorem gX11_isShelf_X11_within : GoodIn wsX11_isShelf (va_wsS RX11 94 yX11_within wsX11_within) := goodIn_app (goodIn_of _ (by decide +kernel)) ggX11_isShelf_X11_within
theorem dX11_isShelf_0 : decode cX11_isShelf 0 = .ok (.iload_n 0, 1) := by decide +kernel
theorem dX11_isShelf_1 : decode cX11_isShelf 1 = .ok (.iconst 0, 1) := by decide +kernel
theorem dX11_isShelf_2 : decode cX11_isShelf 2 = .ok (.bipush 7, 2) := by decide +kernel
theorem dX11_isShelf_4 : decode cX11_isShelf 4 = .ok (.invokestatic 94, 3) := by decide +kernel
theorem dX11_isShelf_7 : decode cX11_isShelf 7 = .ok (.ireturn, 1) := by decide +kernel
theorem dX11_within_0 : decode cX11_within 0 = .ok (.iload_n 0, 1) := by decide +kernel
theorem dX11_within_1 : decode cX11_within 1 = .ok (.iload_n 1, 1) := by decide +kernel
theorem dX11_within_2 : decode cX11_within 2 = .ok (.if_icmp .lt 12, 3) := by decide +kernel
theorem dX11_within_5 : decode cX11_within 5 = .ok (.iload_n 0, 1) := by decide +kernel
theorem dX11_within_6 : decode cX11_within 6 = .ok (.iload_n 2, 1) := by decide +kernel
theorem dX11_within_7 : decode cX11_within 7 = .ok (.if_icmp .gt 7, 3) := by decide +kernel
theorem dX11_within_10 : decode cX11_within 10 = .ok (.iconst 1, 1) := by decide +kernel
theorem dX11_within_11 : decode cX11_within 11 = .ok (.goto 4, 3) := by decide +kernel
theorem dX11_within_14 : decode cX11_within 14 = .ok (.iconst 0, 1) := by decide +kernel
theorem dX11_within_15 : decode cX11_within 15 = .ok (.ireturn, 1) := by decide +kernel
theorem dX11_hasBit_0 : decode cX11_hasBit 0 = .ok (.iload_n 0, 1) := by decide +kernel
theorem dX11_hasBit_1 : decode cX11_hasBit 1 = .ok (.iload_n 1, 1) := by decide +kernel
theorem dX11_hasBit_2 : decode cX11_hasBit 2 = .ok (.ishr, 1) := by decide +kernel
theorem dX11_hasBit_3 : decode cX11_hasBit 3 = .ok (.iconst 1, 1) := by decide +kernel
theorem dX11_hasBit_4 : decode cX11_hasBit 4 = .ok (.iand, 1) := by decide +kernel
theorem dX11_hasBit_5 : decode cX11_hasBit 5 = .ok (.ifCond .eq 7, 3) := by decide +kernel
theorem dX11_hasBit_8 : decode cX11_hasBit 8 = .ok (.iconst 1, 1) := by decide +kernel
theorem dX11_hasBit_9 : decode cX11_hasBit 9 = .ok (.goto 4, 3) := by decide +kernel
theorem dX11_hasBit_12 : decode cX11_hasBit 12 = .ok (.iconst 0, 1) := by decide +kernel
theorem dX11_hasBit_13 : decode cX11_hasBit 13 = .ok (.ireturn, 1) := by decide +kernel
theorem dX11_power_0 : decode cX11_power 0 = .ok (.lconst 1, 1) := by decide +kernel
theorem dX11_power_1 : decode cX11_power 1 = .ok (.lstore_n 2, 1) := by decide +kernel
theorem dX11_power_2 : decode cX11_power 2 = .ok (.iconst 0, 1) := by decide +kernel
theorem dX11_power_3 : decode cX11_power 3 = .ok (.istore 4, 2) := by decide +kernel
theorem dX11_power_5 : decode cX11_power 5 = .ok (.iload 4, 2) := by decide +kernel
theorem dX11_power_7 : decode cX11_power 7 = .ok (.iload_n 1, 1) := by decide +kernel
theorem dX11_power_8 : decode cX11_power 8 = .ok (.if_icmp .ge 14, 3) := by decide +kernel
theorem dX11_power_11 : decode cX11_power 11 = .ok (.lload_n 2, 1) := by decide +kernel
theorem dX11_power_12 : decode cX11_power 12 = .ok (.iload_n 0, 1) := by decide +kernel
theorem dX11_power_13 : decode cX11_power 13 = .ok (.i2l, 1) := by decide +kernel
theorem dX11_power_14 : decode cX11_power 14 = .ok (.lmul, 1) := by decide +kernel
theorem dX11_power_15 : decode cX11_power 15 = .ok (.lstore_n 2, 1) := by decide +kernel
theorem dX11_power_16 : decode cX11_power 16 = .ok (.iinc 4 1, 3) := by decide +kernel
theorem dX11_power_19 : decode cX11_power 19 = .ok (.goto (-14), 3) := by decide +kernel
theorem dX11_power_22 : decode cX11_power 22 = .ok (.lload_n 2, 1) := by decide +kernel
theorem dX11_power_23 : decode cX11_power 23 = .ok (.lreturn, 1) := by decide +kernel
theorem dX11_inLeastTerms_0 : decode cX11_inLeastTerms 0 = .ok (.lload_n 2, 1) := by decide +kernel
theorem dX11_inLeastTerms_1 : decode cX11_inLeastTerms 1 = .ok (.lstore 5, 2) := by decide +kernel
theorem dX11_inLeastTerms_3 : decode cX11_inLeastTerms 3 = .ok (.lload_n 0, 1) := by decide +kernel
theorem dX11_inLeastTerms_4 : decode cX11_inLeastTerms 4 = .ok (.lstore 7, 2) := by decide +kernel
theorem dX11_inLeastTerms_6 : decode cX11_inLeastTerms 6 = .ok (.iconst 0, 1) := by decide +kernel
theorem dX11_inLeastTerms_7 : decode cX11_inLeastTerms 7 = .ok (.istore 9, 2) := by decide +kernel
theorem dX11_inLeastTerms_9 : decode cX11_inLeastTerms 9 = .ok (.iload 9, 2) := by decide +kernel
theorem dX11_inLeastTerms_11 : decode cX11_inLeastTerms 11 = .ok (.sipush 1000, 3) := by decide +kernel
theorem dX11_inLeastTerms_14 : decode cX11_inLeastTerms 14 = .ok (.if_icmp .ge 31, 3) := by decide +kernel
theorem dX11_inLeastTerms_17 : decode cX11_inLeastTerms 17 = .ok (.lload 7, 2) := by decide +kernel
theorem dX11_inLeastTerms_19 : decode cX11_inLeastTerms 19 = .ok (.lconst 0, 1) := by decide +kernel
theorem dX11_inLeastTerms_20 : decode cX11_inLeastTerms 20 = .ok (.lcmp, 1) := by decide +kernel
theorem dX11_inLeastTerms_21 : decode cX11_inLeastTerms 21 = .ok (.ifCond .eq 24, 3) := by decide +kernel
theorem dX11_inLeastTerms_24 : decode cX11_inLeastTerms 24 = .ok (.lload 5, 2) := by decide +kernel
theorem dX11_inLeastTerms_26 : decode cX11_inLeastTerms 26 = .ok (.lload 7, 2) := by decide +kernel
theorem dX11_inLeastTerms_28 : decode cX11_inLeastTerms 28 = .ok (.lrem, 1) := by decide +kernel
theorem dX11_inLeastTerms_29 : decode cX11_inLeastTerms 29 = .ok (.lstore 10, 2) := by decide +kernel
theorem dX11_inLeastTerms_31 : decode cX11_inLeastTerms 31 = .ok (.lload 7, 2) := by decide +kernel
theorem dX11_inLeastTerms_33 : decode cX11_inLeastTerms 33 = .ok (.lstore 5, 2) := by decide +kernel
theorem dX11_inLeastTerms_35 : decode cX11_inLeastTerms 35 = .ok (.lload 10, 2) := by decide +kernel
theorem dX11_inLeastTerms_37 : decode cX11_inLeastTerms 37 = .ok (.lstore 7, 2) := by decide +kernel
theorem dX11_inLeastTerms_39 : decode cX11_inLeastTerms 39 = .ok (.iinc 9 1, 3) := by decide +kernel
theorem dX11_inLeastTerms_42 : decode cX11_inLeastTerms 42 = .ok (.goto (-33), 3) := by decide +kernel
theorem dX11_inLeastTerms_45 : decode cX11_inLeastTerms 45 = .ok (.lload 5, 2) := by decide +kernel
theorem dX11_inLeastTerms_47 : decode cX11_inLeastTerms 47 = .ok (.lconst 0, 1) := by decide +kernel
theorem dX11_inLeastTerms_48 : decode cX11_inLeastTerms 48 = .ok (.lcmp, 1) := by decide +kernel
theorem dX11_inLeastTerms_49 : decode cX11_inLeastTerms 49 = .ok (.ifCond .ne 7, 3) := by decide +kernel
theorem dX11_inLeastTerms_52 : decode cX11_inLeastTerms 52 = .ok (.iload 4, 2) := by decide +kernel
theorem dX11_inLeastTerms_54 : decode cX11_inLeastTerms 54 = .ok (.i2l, 1) := by decide +kernel
theorem dX11_inLeastTerms_55 : decode cX11_inLeastTerms 55 = .ok (.lreturn, 1) := by decide +kernel
theorem dX11_inLeastTerms_56 : decode cX11_inLeastTerms 56 = .ok (.iload 4, 2) := by decide +kernel
theorem dX11_inLeastTerms_58 : decode cX11_inLeastTerms 58 = .ok (.ifCond .ne 10, 3) := by decide +kernel
theorem dX11_inLeastTerms_61 : decode cX11_inLeastTerms 61 = .ok (.lload_n 0, 1) := by decide +kernel
theorem dX11_inLeastTerms_62 : decode cX11_inLeastTerms 62 = .ok (.lload 5, 2) := by decide +kernel
theorem dX11_inLeastTerms_64 : decode cX11_inLeastTerms 64 = .ok (.ldiv, 1) := by decide +kernel
theorem dX11_inLeastTerms_65 : decode cX11_inLeastTerms 65 = .ok (.goto 7, 3) := by decide +kernel
theorem dX11_inLeastTerms_68 : decode cX11_inLeastTerms 68 = .ok (.lload_n 2, 1) := by decide +kernel
theorem dX11_inLeastTerms_69 : decode cX11_inLeastTerms 69 = .ok (.lload 5, 2) := by decide +kernel
theorem dX11_inLeastTerms_71 : decode cX11_inLeastTerms 71 = .ok (.ldiv, 1) := by decide +kernel
theorem dX11_inLeastTerms_72 : decode cX11_inLeastTerms 72 = .ok (.lreturn, 1) := by decide +kernel
